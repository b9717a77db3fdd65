/** What a calm route, and a router's route to itself, do at the edges that the terms name. */
public final class LookEdgesTest {
    private LookEdgesTest() {
    }

    public static void main(String[] args) throws ReflectiveOperationException {
        allIsFarAtFirst();
        noSumIsMoreThanFar();
        sumsEndAtFar();
        throughOneThatIsGoneItIsFar();
        updateOfTheRouterItself();
        queryOfTheRouterItself();
        severalAreToldByTheirNumbers();
        severalAreAskedByTheirNumbers();
        farIsFineWithAFarLimit();
        farIsFineForAFarMessage();
        farIsNotFineWithAnotherLimit();
        toldAtTheLimitIsNotFine();
        toldUnderTheLimitIsFine();
        onlyTheNearestMakesItFine();
        nextIsKeptOnlyIfItIsSurelyNearer();
        limitStaysIfItIsNotMore();
        askerAloneIsToldIfNothingChanges();
        askerIsToldBeforeAllOthers();
        withoutNeighboursItEndsAtOnce();
        Check.finish();
    }

    /** "FAR at first; .. none at first; .. TOLD by that, FAR at first; and it is CALM, at first" */
    private static void allIsFarAtFirst() {
        DiffusingRoutes x = new DiffusingRoutes(3);
        x.connect(0, 1, 5);
        for (int t = 1; t < 3; t++) {
            Check.route("at first", x, 0, t, Check.FAR, Check.FAR, Check.NONE, 0);
            Check.due("at first, told", Check.FAR, x.told(0, 1, t));
            Check.due("at first, waits", false, x.waits(0, 1, t));
        }
    }

    /** "10000 is FAR, and no sum is more". */
    private static void noSumIsMoreThanFar() {
        DiffusingRoutes x = Networks.line(100, 100);
        x.cut(0, 1);
        Check.comes("1 asks", x, 1, 2, Check.QUERY);
        Check.due("1 told", Check.FAR, x.told(2, 1, 0));
        Check.route("FAR and 100 more", x, 2, 0, Check.FAR, 200, 1, 3);
        Check.message("2 asks", x, 2, 1, 0, Check.QUERY, 0, Check.FAR);
        x.connect(1, 2, 1);
        Check.route("FAR and 1 more", x, 2, 0, Check.FAR, 200, 1, 3);
        x.connect(1, 2, 100);
        Check.route("never farther", x, 2, 0, Check.FAR, 200, 1, 3);
        x.run(200);
        Check.route("in the end", x, 2, 0, Check.FAR, Check.FAR, Check.NONE, 0);
    }

    /**
     * "no sum is more", with a told distance that is not FAR itself. No run of calls was seen to
     * tell so much, so it is set from outside; the same link then costs more and less.
     */
    private static void sumsEndAtFar() throws ReflectiveOperationException {
        DiffusingRoutes x = new DiffusingRoutes(3);
        x.connect(0, 1, 50);
        x.run(200);
        Inside.setTold(x, 0, 1, 2, 9950);
        x.connect(0, 1, 50);
        Check.route("FAR by the sum", x, 0, 2, Check.FAR, Check.FAR, Check.NONE, 0);
        x.connect(0, 1, 51);
        Check.route("no more than FAR", x, 0, 2, Check.FAR, Check.FAR, Check.NONE, 0);
        Check.due("1 is told of the way to 1 alone", 1, x.flight(0, 1));
        Check.message("of 1", x, 0, 1, 0, Check.UPDATE, 1, 51);
        x.run(200);
        x.connect(0, 1, 49);
        Check.route("one less than FAR", x, 0, 2, 9999, 9999, 1, 0);
        Check.message("that is told", x, 0, 1, 1, Check.UPDATE, 2, 9999);
        x.run(200);
        Check.due("what 1 was told", 9999, x.told(1, 0, 2));
        Check.route("for 1 it is FAR", x, 1, 2, Check.FAR, Check.FAR, Check.NONE, 0);
        x.connect(0, 1, 100);
        Check.route("FAR through its next", x, 0, 2, Check.FAR, 9999, 1, 1);
        Check.message("it asks", x, 0, 1, 1, Check.QUERY, 2, Check.FAR);
    }

    /** "FAR if there is none (any more)"; "FAR without one". */
    private static void throughOneThatIsGoneItIsFar() {
        DiffusingRoutes x = Networks.line(1, 1);
        x.cut(0, 1);
        Check.route("its next is gone", x, 1, 0, Check.FAR, 1, Check.NONE, 1);
        x.connect(0, 1, 1);
        Check.due("what it told is gone, too", Check.FAR, x.told(1, 0, 0));
        Check.route("it is not its next again", x, 1, 0, Check.FAR, 1, Check.NONE, 1);
    }

    /** "For the router itself as the target: ..; nothing else happens." */
    private static void updateOfTheRouterItself() {
        DiffusingRoutes x = Networks.line(5);
        x.connect(0, 1, 4);
        Check.message("0 tells 1 of 1", x, 0, 1, 0, Check.UPDATE, 1, 4);
        int sent = x.total(0);
        Check.comes("of 1 itself", x, 0, 1, Check.UPDATE);
        Check.route("1 itself", x, 1, 1, 0, 0, Check.NONE, 0);
        Check.due("1 itself, told", Check.NONE, x.told(1, 0, 1));
        Check.due("1 itself tells nobody", sent, x.total(0));
        Check.due("1 itself does not answer", 0, x.total(2));
    }

    /** "For the router itself as the target: a QUERY is told a REPLY, with the distance 0". */
    private static void queryOfTheRouterItself() {
        DiffusingRoutes x = Networks.settled(3, new int[] {0, 1, 1}, new int[] {0, 2, 1});
        x.connect(1, 2, 1);
        x.cut(0, 1);
        Check.route("1 asks of 2, not told yet", x, 1, 2, Check.FAR, 2, Check.NONE, 1);
        int last = x.flight(1, 2) - 1;
        Check.message("1 asks 2 itself", x, 1, 2, last, Check.QUERY, 2, Check.FAR);
        Networks.deliverAll(x, 1, 2);
        last = x.flight(2, 1) - 1;
        Check.message("2 answers", x, 2, 1, last, Check.REPLY, 2, 0);
        Check.route("2 itself", x, 2, 2, 0, 0, Check.NONE, 0);
        Check.due("2 itself, told", Check.NONE, x.told(2, 1, 2));
        Networks.deliverAll(x, 2, 1);
        Check.route("1 ends", x, 1, 2, 1, 1, 2, 0);
    }

    /** 2 in the middle, linked with all others. */
    private static DiffusingRoutes star() {
        return Networks.settled(5, new int[] {2, 4, 9}, new int[] {2, 1, 9}, new int[] {2, 3, 9},
                new int[] {2, 0, 9});
    }

    /** One message more comes each time, always on the link from 2 to the one that is due. */
    private static void comeFromTwo(String what, DiffusingRoutes x, int... order) {
        for (int to : order) {
            int before = x.flight(2, to);
            x.run(1);
            Check.due(what + ", to " + to, before - 1, x.flight(2, to));
        }
    }

    /** "Where several are told, it is by their numbers." */
    private static void severalAreToldByTheirNumbers() {
        DiffusingRoutes x = star();
        x.connect(2, 4, 5);
        Check.route("2 goes on by itself", x, 2, 4, 5, 5, 4, 0);
        comeFromTwo("UPDATE", x, 0, 1, 3, 4);
    }

    private static void severalAreAskedByTheirNumbers() {
        DiffusingRoutes x = star();
        x.cut(2, 4);
        Check.route("2 asks", x, 2, 4, Check.FAR, 9, Check.NONE, 1);
        comeFromTwo("QUERY", x, 0, 1, 3);
    }

    /** "It is FINE, when m is FAR, if its limit is FAR, too". */
    private static void farIsFineWithAFarLimit() {
        DiffusingRoutes x = Networks.settled(4, new int[] {0, 1, 1}, new int[] {1, 2, 1});
        x.connect(0, 1, 2);
        Check.route("3 is far from 0", x, 0, 3, Check.FAR, Check.FAR, Check.NONE, 0);
        Check.route("3 is far from 1", x, 1, 3, Check.FAR, Check.FAR, Check.NONE, 0);
        x.cut(0, 1);
        Check.route("alone", x, 0, 3, Check.FAR, Check.FAR, Check.NONE, 0);
        Check.route("not alone", x, 1, 3, Check.FAR, Check.FAR, Check.NONE, 0);
        Check.due("1 asks of 0 alone", 1, x.total(1));
    }

    private static void farIsFineForAFarMessage() {
        DiffusingRoutes x = Networks.line(1, 1);
        x.cut(0, 1);
        Check.comes("1 asks", x, 1, 2, Check.QUERY);
        Check.comes("2 asks", x, 2, 1, Check.QUERY);
        Check.comes("1 answers", x, 1, 2, Check.REPLY);
        Check.comes("2 answers", x, 2, 1, Check.REPLY);
        Check.message("1 ends", x, 1, 2, 0, Check.UPDATE, 0, Check.FAR);
        Check.route("before", x, 2, 0, Check.FAR, Check.FAR, Check.NONE, 0);
        Check.comes("1 ends", x, 1, 2, Check.UPDATE);
        Check.route("as before", x, 2, 0, Check.FAR, Check.FAR, Check.NONE, 0);
        Check.due("nothing is told", 0, x.total(3));
    }

    private static void farIsNotFineWithAnotherLimit() {
        DiffusingRoutes x = Networks.line(1, 1);
        int queries = x.total(1);
        x.cut(0, 1);
        Check.route("1 asks", x, 1, 0, Check.FAR, 1, Check.NONE, 1);
        Check.due("by one QUERY", queries + 1, x.total(1));
    }

    /** 2 is 5 from 0 by its link, or goes over 1, which is this far from 0, and 10 from 2. */
    private static DiffusingRoutes detour(int fromZeroToOne) {
        DiffusingRoutes x = Networks.settled(3, new int[] {0, 2, 5},
                new int[] {0, 1, fromZeroToOne}, new int[] {1, 2, 10});
        Check.route("by its link", x, 2, 0, 5, 5, 0, 0);
        Check.due("1 told", fromZeroToOne, x.told(2, 1, 0));
        return x;
    }

    /** "a neighbour that told less than the limit". */
    private static void toldAtTheLimitIsNotFine() {
        DiffusingRoutes x = detour(5);
        x.connect(0, 2, 50);
        Check.route("told is the limit", x, 2, 0, 50, 5, 0, 1);
        DiffusingRoutes y = detour(6);
        y.connect(0, 2, 50);
        Check.route("told is more than the limit", y, 2, 0, 50, 5, 0, 1);
    }

    private static void toldUnderTheLimitIsFine() {
        DiffusingRoutes x = detour(4);
        x.connect(0, 2, 50);
        Check.route("told is less than the limit", x, 2, 0, 14, 5, 1, 0);
    }

    /** "and through which it is m": 0 itself told 0, but may be farther away by the link than 1. */
    private static void onlyTheNearestMakesItFine() {
        DiffusingRoutes x = detour(9);
        x.connect(0, 2, 19);
        Check.route("as far by the link as over 1", x, 2, 0, 19, 5, 0, 0);
        x.connect(0, 2, 20);
        Check.route("farther by the link than over 1", x, 2, 0, 20, 5, 0, 1);
    }

    /** "the next that it has, if it is one of these": it must have told less than the limit. */
    private static void nextIsKeptOnlyIfItIsSurelyNearer() {
        DiffusingRoutes x = Networks.settled(4, new int[] {0, 1, 2}, new int[] {0, 2, 4},
                new int[] {1, 3, 3}, new int[] {2, 3, 4});
        Check.route("over 1", x, 3, 0, 5, 5, 1, 0);
        x.connect(0, 1, 5);
        Check.message("1 tells 3", x, 1, 3, 0, Check.UPDATE, 0, 5);
        Check.comes("1 tells 3", x, 1, 3, Check.UPDATE);
        Check.due("as far over 1", 8, x.told(3, 1, 0) + x.cost(3, 1));
        Check.due("as far over 2", 8, x.told(3, 2, 0) + x.cost(3, 2));
        Check.route("over 2", x, 3, 0, 8, 5, 2, 0);
    }

    /** "its limit, if that is more, too". */
    private static void limitStaysIfItIsNotMore() {
        DiffusingRoutes x = Networks.line(5);
        x.connect(0, 1, 6);
        Check.route("one more", x, 1, 0, 6, 5, 0, 0);
        x.connect(0, 1, 5);
        Check.route("the same", x, 1, 0, 5, 5, 0, 0);
        x.connect(0, 1, 4);
        Check.route("one less", x, 1, 0, 4, 4, 0, 0);
    }

    /** "then, if the distance is another one than before, all others are by an UPDATE". */
    private static void askerAloneIsToldIfNothingChanges() {
        DiffusingRoutes x = Networks.settled(4, new int[] {0, 1, 1}, new int[] {0, 2, 5},
                new int[] {1, 2, 9}, new int[] {2, 3, 1});
        x.cut(0, 1);
        int updates = x.total(0);
        Check.message("1 asks 2", x, 1, 2, 0, Check.QUERY, 0, Check.FAR);
        Check.comes("1 asks 2", x, 1, 2, Check.QUERY);
        Check.route("2 goes on", x, 2, 0, 5, 5, 0, 0);
        Check.message("2 answers 1", x, 2, 1, 0, Check.REPLY, 0, 5);
        Check.due("only by that", 1, x.flight(2, 1));
        Check.due("2 tells nobody else", updates, x.total(0));
    }

    /** "that neighbour is told by a REPLY; then .. all others": also before a lesser number. */
    private static void askerIsToldBeforeAllOthers() {
        DiffusingRoutes x = Networks.settled(3, new int[] {0, 2, 1}, new int[] {1, 2, 1},
                new int[] {0, 1, 5});
        x.connect(1, 2, 9);
        int others = x.total(3) - 1;
        Check.message("2 asks 0", x, 2, 0, 0, Check.QUERY, 1, 9);
        Check.comes("2 asks 0", x, 2, 0, Check.QUERY);
        Check.route("0 goes on", x, 0, 1, 5, 2, 1, 0);
        Check.message("0 answers 2", x, 0, 2, 0, Check.REPLY, 1, 5);
        Check.message("0 tells 1", x, 0, 1, 0, Check.UPDATE, 1, 5);
        x.run(others);
        int to1 = x.flight(0, 1);
        int to2 = x.flight(0, 2);
        x.run(1);
        Check.due("2 first", to2 - 1, x.flight(0, 2));
        Check.due("1 not yet", to1, x.flight(0, 1));
        x.run(1);
        Check.due("1 then", to1 - 1, x.flight(0, 1));
    }

    /** "Without neighbours it ENDS at once." */
    private static void withoutNeighboursItEndsAtOnce() {
        DiffusingRoutes x = Networks.line(1, 1);
        x.cut(2, 1);
        Check.route("alone", x, 2, 0, Check.FAR, Check.FAR, Check.NONE, 0);
        Check.route("alone", x, 2, 1, Check.FAR, Check.FAR, Check.NONE, 0);
        Check.due("1 alone asks, of 2", 1, x.total(1));
        Check.due("1 alone is busy, with 2", 1, x.total(4));
        Check.due("nobody is waited for", false, x.waits(2, 1, 0));
    }
}
