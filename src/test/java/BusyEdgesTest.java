/** What a busy route does at the edges that the terms name. */
public final class BusyEdgesTest {
    private BusyEdgesTest() {
    }

    public static void main(String[] args) {
        updateIsNotWaitedFor();
        queryIsNotWaitedFor();
        asFarAsBeforeDoesNotGrowIt();
        plainEndForgetsTheLimit();
        grownEndKeepsTheLimit();
        grownEndLowersTheLimit();
        endIsToldEvenIfNothingChanged();
        nextIsAnsweredBeforeAllOthers();
        farNextIsLeftAtTheEnd();
        grownRouteEndsWithoutNeighbours();
        newNeighbourIsToldButNotAsked();
        newNeighbourIsToldAtTheEnd();
        costOfABusyRouteTellsNobody();
        lostNextGrowsARoute();
        lostNextOfAFarRoute();
        lostNeighbourThatIsNotNext();
        lastOneWaitedForIsLost();
        lostQueryIsNotHeard();
        lostReplyIsNotWaitedFor();
        Check.finish();
    }

    /** "a REPLY is waited for no longer": an UPDATE is not that. */
    private static void updateIsNotWaitedFor() {
        DiffusingRoutes x = Networks.askingRing();
        x.connect(0, 1, 2);
        Check.comes("1 asks, and tells", x, 1, 2, Check.QUERY, Check.QUERY, Check.UPDATE);
        Check.due("1 told of 0", 2, x.told(2, 1, 0));
        Check.due("1 is waited for", true, x.waits(2, 1, 0));
        Check.due("3 is waited for", true, x.waits(2, 3, 0));
    }

    /** A QUERY is not a REPLY either, be it of the next or of another one. */
    private static void queryIsNotWaitedFor() {
        DiffusingRoutes x = Networks.askedAndGrown();
        Check.due("the next asked", true, x.waits(2, 1, 0));
        DiffusingRoutes y = Networks.line(1, 1);
        y.cut(0, 1);
        Check.comes("1 asks", y, 1, 2, Check.QUERY);
        Check.comes("2 asks", y, 2, 1, Check.QUERY);
        Check.route("another one asked", y, 1, 0, Check.FAR, 1, Check.NONE, 1);
        Check.due("another one asked", true, y.waits(1, 2, 0));
    }

    /** "through which it is farther than the route's distance now": not if it is as far. */
    private static void asFarAsBeforeDoesNotGrowIt() {
        DiffusingRoutes x = Networks.askingRing();
        x.connect(1, 2, 19);
        Check.route("nearer", x, 2, 0, 21, 2, 1, 1);
        x.connect(0, 1, 2);
        Check.comes("1 is farther by 1", x, 1, 2, Check.QUERY, Check.QUERY, Check.UPDATE);
        Check.due("as far as before", 21, x.told(2, 1, 0) + x.cost(2, 1));
        Check.route("as far as before", x, 2, 0, 21, 2, 1, 1);
        x.connect(0, 1, 3);
        Check.comes("1 is farther by 2", x, 1, 2, Check.UPDATE);
        Check.route("farther", x, 2, 0, 21, 2, 1, 2);
    }

    /** All that was asked in the triangle is answered to 1. */
    private static void answerOne(DiffusingRoutes x) {
        Networks.deliverAll(x, 1, 0);
        Networks.deliverAll(x, 1, 2);
        Networks.deliverAll(x, 0, 1);
        Networks.deliverAll(x, 2, 1);
    }

    /** "If it is not grown, its limit is FAR first." */
    private static void plainEndForgetsTheLimit() {
        DiffusingRoutes x = Networks.dearTriangle();
        Check.route("1 asks", x, 1, 2, 9, 1, 2, 1);
        answerOne(x);
        Check.route("1 ends", x, 1, 2, 6, 6, 0, 0);
    }

    private static void grownEndKeepsTheLimit() {
        DiffusingRoutes x = Networks.dearTriangle();
        x.connect(1, 2, 10);
        x.connect(1, 2, 4);
        Check.route("1 is grown", x, 1, 2, 9, 1, 2, 2);
        answerOne(x);
        Check.route("1 ends", x, 1, 2, 4, 1, 2, 0);
    }

    /** "its limit, if that is more, too", at the end of a grown one. */
    private static void grownEndLowersTheLimit() {
        DiffusingRoutes x = Networks.settled(3, new int[] {0, 1, 10}, new int[] {1, 2, 10},
                new int[] {0, 2, 50});
        x.connect(1, 2, 40);
        Check.route("1 asks", x, 1, 2, 40, 10, 2, 1);
        x.connect(1, 2, 41);
        x.connect(1, 2, 9);
        Check.route("1 is grown", x, 1, 2, 40, 10, 2, 2);
        x.run(200);
        Check.route("1 ends", x, 1, 2, 9, 9, 2, 0);
    }

    /** "then all neighbours (but that one) are told by an UPDATE", though the distance stays. */
    private static void endIsToldEvenIfNothingChanged() {
        DiffusingRoutes x = Networks.settled(3, new int[] {0, 1, 1}, new int[] {1, 2, 1},
                new int[] {0, 2, 100});
        x.connect(1, 2, 9);
        Check.route("1 asks", x, 1, 2, 9, 1, 2, 1);
        Check.comes("1 asks 0", x, 1, 0, Check.QUERY);
        Check.route("0 asks", x, 0, 2, 10, 2, 1, 3);
        Networks.deliverAll(x, 0, 1);
        Networks.deliverAll(x, 1, 0);
        Networks.deliverAll(x, 0, 2);
        Networks.deliverAll(x, 2, 0);
        Check.route("0 ends", x, 0, 2, 10, 10, 1, 0);
        Networks.deliverAll(x, 0, 1);
        Networks.deliverAll(x, 1, 2);
        Networks.deliverAll(x, 2, 1);
        Check.route("1 ends", x, 1, 2, 9, 9, 2, 0);
        Check.message("1 tells 0", x, 1, 0, x.flight(1, 0) - 1, Check.UPDATE, 2, 9);
        Check.message("1 tells 2", x, 1, 2, x.flight(1, 2) - 1, Check.UPDATE, 2, 9);
    }

    /** "the next that it had is told by a REPLY; then all ..": also before a lesser number. */
    private static void nextIsAnsweredBeforeAllOthers() {
        DiffusingRoutes x = Networks.line(1, 1, 1);
        x.cut(2, 3);
        Check.comes("2 asks 1", x, 2, 1, Check.QUERY);
        Check.comes("1 asks 2", x, 1, 2, Check.QUERY);
        Check.comes("1 asks 0", x, 1, 0, Check.QUERY);
        Check.comes("0 asks 1", x, 0, 1, Check.QUERY);
        Check.comes("1 answers 0, which ends", x, 1, 0, Check.REPLY);
        Check.comes("0 answers 1", x, 0, 1, Check.REPLY);
        Check.route("1 waits for 2", x, 1, 3, Check.FAR, 2, 2, 3);
        Check.comes("2 answers 1", x, 2, 1, Check.REPLY);
        Check.route("1 ends", x, 1, 3, Check.FAR, Check.FAR, Check.NONE, 0);
        Check.message("1 answers 2", x, 1, 2, 0, Check.REPLY, 3, Check.FAR);
        Check.message("1 tells 0", x, 1, 0, 0, Check.UPDATE, 3, Check.FAR);
        Check.due("no more", 2, x.total(3));
        x.run(1);
        Check.due("2 first", 0, x.flight(1, 2));
        Check.due("0 not yet", 1, x.flight(1, 0));
    }

    /** "none if m is FAR", though its next is a neighbour still. */
    private static void farNextIsLeftAtTheEnd() {
        DiffusingRoutes x = Networks.line(1, 1);
        x.cut(0, 1);
        Check.comes("1 asks", x, 1, 2, Check.QUERY);
        Check.route("1 is its next", x, 2, 0, Check.FAR, 2, 1, 3);
        Check.comes("2 asks", x, 2, 1, Check.QUERY);
        Check.comes("1 answers", x, 1, 2, Check.REPLY);
        Check.route("1 is a neighbour alone", x, 2, 0, Check.FAR, Check.FAR, Check.NONE, 0);
        Check.due("a link is there", 1, x.cost(1, 2));
    }

    /** "without neighbours it ends at once", also when it was grown, and would ask again. */
    private static void grownRouteEndsWithoutNeighbours() {
        DiffusingRoutes x = Networks.dearTriangle();
        x.cut(1, 2);
        Check.route("1 is grown", x, 1, 2, 9, 1, Check.NONE, 2);
        int queries = x.total(1);
        x.cut(0, 1);
        Check.route("1 is alone", x, 1, 2, Check.FAR, Check.FAR, Check.NONE, 0);
        Check.route("1 is alone", x, 1, 0, Check.FAR, Check.FAR, Check.NONE, 0);
        Check.due("0 alone asks, of 1", queries + 1, x.total(1));
    }

    /** "for each target .. to which their distance is not FAR (also themselves)". */
    private static void newNeighbourIsToldButNotAsked() {
        DiffusingRoutes x = Networks.settled(5, new int[] {0, 1, 1}, new int[] {1, 2, 1},
                new int[] {0, 2, 5});
        x.connect(1, 2, 9);
        int queries = x.total(1);
        x.connect(3, 1, 1);
        Check.due("nobody is asked", queries, x.total(1));
        Check.due("1 tells three, not of 3 and 4", 3, x.flight(1, 3));
        Check.message("1 tells", x, 1, 3, 0, Check.UPDATE, 0, 1);
        Check.message("1 tells of itself", x, 1, 3, 1, Check.UPDATE, 1, 0);
        Check.message("1 tells while it is busy", x, 1, 3, 2, Check.UPDATE, 2, 9);
        Check.due("3 tells of itself alone", 1, x.flight(3, 1));
        Check.message("3 tells of itself", x, 3, 1, 0, Check.UPDATE, 3, 0);
        Check.due("3 is not waited for", false, x.waits(1, 3, 2));
        Check.due("0 is waited for", true, x.waits(1, 0, 2));
        Check.route("1 is as before", x, 1, 2, 9, 1, 2, 1);
    }

    private static void newNeighbourIsToldAtTheEnd() {
        DiffusingRoutes x = Networks.settled(4, new int[] {0, 1, 1}, new int[] {1, 2, 1},
                new int[] {0, 2, 5});
        x.connect(1, 2, 9);
        x.connect(3, 1, 1);
        answerOne(x);
        Check.route("1 ends without 3", x, 1, 2, 6, 6, 0, 0);
        Check.message("1 tells 3", x, 1, 3, x.flight(1, 3) - 1, Check.UPDATE, 2, 6);
    }

    /** "a busy one is grown if it is farther": nothing else happens to it. */
    private static void costOfABusyRouteTellsNobody() {
        DiffusingRoutes x = Networks.line(1, 1);
        x.cut(0, 1);
        Check.comes("1 asks", x, 1, 2, Check.QUERY);
        Check.route("2 is asked", x, 2, 0, Check.FAR, 2, 1, 3);
        int sent = x.total(0);
        x.connect(1, 2, 7);
        Check.due("1 of 2, and 2 of 1, and nobody of 0", sent + 2, x.total(0));
        Check.due("as many QUERYs as before", 2, x.total(1));
        Check.route("2 is as before", x, 2, 0, Check.FAR, 2, 1, 3);
        Check.route("1 is as before", x, 1, 0, Check.FAR, 1, Check.NONE, 1);
    }

    /** "a busy one whose next it was .. is grown, if its distance is not FAR". */
    private static void lostNextGrowsARoute() {
        DiffusingRoutes x = Networks.dearTriangle();
        Check.route("before", x, 1, 2, 9, 1, 2, 1);
        x.cut(1, 2);
        Check.route("grown", x, 1, 2, 9, 1, Check.NONE, 2);
        Check.due("2 is not waited for", false, x.waits(1, 2, 2));
        Check.due("0 is waited for", true, x.waits(1, 0, 2));
    }

    private static void lostNextOfAFarRoute() {
        DiffusingRoutes x = Networks.line(1, 1, 1);
        x.cut(0, 1);
        Check.comes("1 asks", x, 1, 2, Check.QUERY);
        Check.route("before", x, 2, 0, Check.FAR, 2, 1, 3);
        x.cut(2, 1);
        Check.route("neither asked nor grown", x, 2, 0, Check.FAR, 2, Check.NONE, 1);
        Check.comes("2 asks 3", x, 2, 3, Check.QUERY);
        Networks.deliverAll(x, 3, 2);
        Networks.deliverAll(x, 2, 3);
        Networks.deliverAll(x, 3, 2);
        Check.route("2 ends, and asks nobody again", x, 2, 0, Check.FAR, Check.FAR, Check.NONE, 0);
    }

    private static void lostNeighbourThatIsNotNext() {
        DiffusingRoutes x = Networks.askedAndGrown();
        x.cut(2, 3);
        Check.route("asked and grown still", x, 2, 0, 21, 2, 1, 4);
        Check.due("3 is not waited for", false, x.waits(2, 3, 0));
        Check.due("1 is waited for", true, x.waits(2, 1, 0));
        DiffusingRoutes y = Networks.dearTriangle();
        y.cut(0, 1);
        Check.route("not grown by it", y, 1, 2, 9, 1, 2, 1);
        Check.due("0 is not waited for", false, y.waits(1, 0, 2));
        Check.due("2 is waited for", true, y.waits(1, 2, 2));
    }

    /** "then a busy one ends, if it does not wait any more", with neighbours that are left. */
    private static void lastOneWaitedForIsLost() {
        DiffusingRoutes x = Networks.dearTriangle();
        Networks.deliverAll(x, 1, 2);
        Networks.deliverAll(x, 2, 1);
        Check.due("2 has answered", false, x.waits(1, 2, 2));
        Check.due("0 has not", true, x.waits(1, 0, 2));
        x.cut(0, 1);
        Check.route("1 ends", x, 1, 2, 9, 9, 2, 0);
        Check.message("1 tells 2", x, 1, 2, x.flight(1, 2) - 1, Check.UPDATE, 2, 9);
    }

    /** "its messages are lost": 2 is never asked by 1, and asks by itself. */
    private static void lostQueryIsNotHeard() {
        DiffusingRoutes x = Networks.line(1, 1, 1);
        x.cut(0, 1);
        Check.message("1 asks", x, 1, 2, 0, Check.QUERY, 0, Check.FAR);
        Check.due("the QUERY is lost", 1, x.cut(1, 2));
        Check.route("1 is alone", x, 1, 0, Check.FAR, Check.FAR, Check.NONE, 0);
        Check.route("2 asks", x, 2, 0, Check.FAR, 2, Check.NONE, 1);
        Check.message("2 asks", x, 2, 3, 0, Check.QUERY, 0, Check.FAR);
        Check.due("one of 1, that is lost, and two of 2", 3, x.total(1));
    }

    private static void lostReplyIsNotWaitedFor() {
        DiffusingRoutes x = Networks.line(1, 1);
        x.cut(0, 1);
        Check.comes("1 asks", x, 1, 2, Check.QUERY);
        Check.comes("2 asks", x, 2, 1, Check.QUERY);
        Check.message("1 answers", x, 1, 2, 0, Check.REPLY, 0, Check.FAR);
        Check.due("the REPLY is lost", 1, x.cut(1, 2));
        Check.route("2 ends", x, 2, 0, Check.FAR, Check.FAR, Check.NONE, 0);
        x.connect(1, 2, 3);
        Check.due("it does not come with the link", 1, x.flight(1, 2));
        Check.message("1 tells of itself", x, 1, 2, 0, Check.UPDATE, 1, 0);
        Check.due("1 is not waited for again", false, x.waits(2, 1, 0));
        x.run(200);
        Check.due("nobody is busy", 0, x.total(4));
        Check.due("2 is there again", 3, x.distance(1, 2));
    }
}
