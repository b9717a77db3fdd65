/** What the terms say of routes, seen through promises 7 to 12 and the messages. */
public final class RouteTest {
    /** No route in a network of three routers. */
    private static final int[][] NO_ROUTE = {{-1, 0}, {0, -1}, {3, 0}, {0, 3}, {3, 3}, {-1, -1},
        {Integer.MIN_VALUE, 0}, {0, Integer.MIN_VALUE}, {Integer.MAX_VALUE, 0},
        {0, Integer.MAX_VALUE}};

    private RouteTest() {
    }

    public static void main(String[] args) {
        distanceOfNobody();
        limitOfNobody();
        nextOfNobody();
        stateOfNobody();
        toldOfNobody();
        toldByNoNeighbour();
        waitsOfNobody();
        waitsForNobody();
        routerItself();
        shortestWayIsFound();
        nextIsKeptAmongEquals();
        leastNumberIsTakenAmongEquals();
        limitIsTheLeastDistance();
        unchangedDistanceIsNotTold();
        askerIsAnsweredFirst();
        anotherAskerIsAnsweredBeforeAsking();
        askedRouteAnswersAtItsEnd();
        dearerLinkGrowsABusyRoute();
        fartherNextGrowsABusyRoute();
        otherNeighboursDoNotGrowIt();
        grownRouteAsksAgain();
        lostNextIsNotAnswered();
        farRouteDoesNotGrowByALoss();
        lastLinkEndsABusyRoute();
        Check.finish();
    }

    private static void distanceOfNobody() {
        DiffusingRoutes x = Networks.line(1, 1);
        for (int[] row : NO_ROUTE) {
            Check.due("distance of nobody", Check.NONE, x.distance(row[0], row[1]));
        }
        Check.due("the last one to the first one", 2, x.distance(2, 0));
        Check.due("the first one to the last one", 2, x.distance(0, 2));
    }

    private static void limitOfNobody() {
        DiffusingRoutes x = Networks.line(1, 1);
        for (int[] row : NO_ROUTE) {
            Check.due("limit of nobody", Check.NONE, x.limit(row[0], row[1]));
        }
        Check.due("the last one to the first one", 2, x.limit(2, 0));
        Check.due("the first one to the last one", 2, x.limit(0, 2));
    }

    private static void nextOfNobody() {
        DiffusingRoutes x = Networks.line(1, 1);
        for (int[] row : NO_ROUTE) {
            Check.due("next of nobody", Check.NONE, x.next(row[0], row[1]));
        }
        Check.due("the last one to the first one", 1, x.next(2, 0));
        Check.due("the first one to the last one", 1, x.next(0, 2));
        x.cut(0, 1);
        Check.due("none any more", Check.NONE, x.next(0, 2));
    }

    private static void stateOfNobody() {
        DiffusingRoutes x = Networks.line(1, 1);
        for (int[] row : NO_ROUTE) {
            Check.due("state of nobody", Check.NONE, x.state(row[0], row[1]));
        }
        Check.due("the last one to the first one", 0, x.state(2, 0));
        Check.due("the first one to the last one", 0, x.state(0, 2));
    }

    private static void toldOfNobody() {
        DiffusingRoutes x = Networks.line(1, 1);
        for (int[] row : NO_ROUTE) {
            Check.due("told of nobody", Check.NONE, x.told(row[0], 1, row[1]));
        }
        Check.due("the last one of the first one", 1, x.told(2, 1, 0));
        Check.due("the first one of the last one", 1, x.told(0, 1, 2));
    }

    private static void toldByNoNeighbour() {
        DiffusingRoutes x = Networks.line(1, 1);
        for (int n : new int[] {-1, 3, Integer.MIN_VALUE, Integer.MAX_VALUE}) {
            Check.due("told by nobody", Check.NONE, x.told(0, n, 2));
        }
        Check.due("without a link", Check.NONE, x.told(0, 2, 1));
        Check.due("without a link, of itself", Check.NONE, x.told(0, 2, 2));
        Check.due("by itself", Check.NONE, x.told(1, 1, 0));
        x.cut(0, 1);
        Check.due("no neighbour any more", Check.NONE, x.told(0, 1, 2));
    }

    private static void waitsOfNobody() {
        DiffusingRoutes x = Networks.dearTriangle();
        for (int[] row : NO_ROUTE) {
            Check.due("nobody waits", false, x.waits(row[0], 0, row[1]));
            Check.due("nobody waits", false, x.waits(row[0], 1, row[1]));
            Check.due("nobody waits", false, x.waits(row[0], 2, row[1]));
        }
    }

    private static void waitsForNobody() {
        DiffusingRoutes x = Networks.dearTriangle();
        Check.due("for a neighbour", true, x.waits(1, 0, 2));
        for (int n : new int[] {-1, 3, Integer.MIN_VALUE, Integer.MAX_VALUE}) {
            Check.due("for nobody", false, x.waits(1, n, 2));
        }
        Check.due("for itself", false, x.waits(1, 1, 2));
        Check.due("a calm route", false, x.waits(2, 0, 0));
        DiffusingRoutes y = Networks.line(1, 1, 1);
        y.cut(0, 1);
        Check.due("for its neighbour", true, y.waits(1, 2, 0));
        Check.due("for one that is none any more", false, y.waits(1, 0, 0));
        Check.due("for one that never was", false, y.waits(1, 3, 0));
    }

    private static void routerItself() {
        DiffusingRoutes x = Networks.line(1, 1);
        Check.route("itself", x, 1, 1, 0, 0, Check.NONE, 0);
        Check.due("told of itself", Check.NONE, x.told(1, 0, 1));
        Check.due("itself, waits", false, x.waits(1, 2, 1));
        x.connect(1, 2, 8);
        Check.route("itself, a dearer link", x, 1, 1, 0, 0, Check.NONE, 0);
        x.cut(0, 1);
        Check.route("itself, a link less", x, 1, 1, 0, 0, Check.NONE, 0);
        Check.due("itself, waits", false, x.waits(1, 2, 1));
        x.cut(2, 1);
        Check.route("itself, alone", x, 1, 1, 0, 0, Check.NONE, 0);
    }

    private static void shortestWayIsFound() {
        DiffusingRoutes x = Networks.settled(4, new int[] {0, 1, 2}, new int[] {1, 2, 3},
                new int[] {0, 2, 7}, new int[] {2, 3, 100});
        Check.route("over 1", x, 2, 0, 5, 5, 1, 0);
        Check.route("over 2 and 1", x, 3, 0, 105, 105, 2, 0);
        Check.route("over 1 and 2", x, 0, 3, 105, 105, 1, 0);
        Check.due("told by 1", 2, x.told(2, 1, 0));
        Check.due("told by 0 of itself", 0, x.told(2, 0, 0));
        Check.due("told by 3 of the way back", 105, x.told(2, 3, 0));
    }

    /** Two ways of the same length from 3 to 0; the one over 2 was there first. */
    private static DiffusingRoutes twoEqualWays() {
        DiffusingRoutes x = Networks.settled(5, new int[] {0, 2, 1}, new int[] {2, 3, 1});
        x.connect(0, 1, 1);
        x.connect(1, 3, 1);
        x.run(200);
        return x;
    }

    private static void nextIsKeptAmongEquals() {
        DiffusingRoutes x = twoEqualWays();
        Check.route("over 2 still", x, 3, 0, 2, 2, 2, 0);
        x.connect(2, 3, 5);
        Check.route("over 1 now", x, 3, 0, 2, 2, 1, 0);
        x.connect(2, 3, 1);
        Check.route("over 1 still", x, 3, 0, 2, 2, 1, 0);
    }

    private static void leastNumberIsTakenAmongEquals() {
        DiffusingRoutes x = twoEqualWays();
        x.connect(0, 4, 1);
        x.run(200);
        x.connect(3, 4, 1);
        x.run(200);
        x.connect(3, 1, 3);
        x.connect(3, 2, 3);
        Check.due("over 4", 4, x.next(3, 0));
        x.connect(3, 2, 1);
        x.connect(3, 1, 1);
        int sent = x.total(0);
        x.cut(3, 4);
        Check.route("the least number", x, 3, 0, 2, 2, 1, 0);
        Check.due("as far as before is not told", sent, x.total(0));
    }

    private static void limitIsTheLeastDistance() {
        DiffusingRoutes x = Networks.line(9);
        x.connect(0, 1, 4);
        Check.route("nearer", x, 1, 0, 4, 4, 0, 0);
        x.connect(0, 1, 60);
        Check.route("farther", x, 1, 0, 60, 4, 0, 0);
        x.connect(0, 1, 4);
        Check.route("at the limit", x, 1, 0, 4, 4, 0, 0);
        x.connect(0, 1, 3);
        Check.route("under the limit", x, 1, 0, 3, 3, 0, 0);
    }

    private static void unchangedDistanceIsNotTold() {
        DiffusingRoutes x = twoEqualWays();
        int sent = x.total(0);
        x.connect(2, 3, 2);
        Check.due("another next", 1, x.next(3, 0));
        Check.due("only 2 and 3 are farther", sent + 4, x.total(0));
    }

    private static void askerIsAnsweredFirst() {
        DiffusingRoutes x = Networks.dearTriangle();
        Check.route("0 told no less than the limit", x, 1, 2, 9, 1, 2, 1);
        Check.due("0 is waited for", true, x.waits(1, 0, 2));
        Check.due("2 is waited for", true, x.waits(1, 2, 2));
        Check.route("0 is surely nearer", x, 2, 0, 5, 2, 0, 0);
        Check.message("2 tells 1", x, 2, 1, 0, Check.UPDATE, 0, 5);
        Check.message("2 asks 1", x, 2, 1, 1, Check.QUERY, 1, 9);
        Check.message("1 asks 0", x, 1, 0, 0, Check.QUERY, 2, 9);
        Check.comes("1 asks", x, 1, 0, Check.QUERY);
        Check.route("0 goes by itself", x, 0, 2, 5, 2, 2, 0);
        Check.message("0 answers 1", x, 0, 1, 0, Check.REPLY, 2, 5);
        Check.due("only by that", 1, x.flight(0, 1));
        Check.message("0 tells 2", x, 0, 2, 0, Check.UPDATE, 2, 5);
        Check.comes("1 asks 2 of itself", x, 1, 2, Check.QUERY);
        Check.message("2 answers of itself", x, 2, 1, 2, Check.REPLY, 2, 0);
        Check.comes("0 answers", x, 0, 1, Check.REPLY);
        Check.due("0 is waited for no longer", false, x.waits(1, 0, 2));
        Check.route("2 is waited for still", x, 1, 2, 9, 1, 2, 1);
        Check.comes("2 answers", x, 2, 1, Check.UPDATE, Check.QUERY, Check.REPLY);
        Check.route("1 ends", x, 1, 2, 6, 6, 0, 0);
        Check.message("all are told", x, 1, 0, 0, Check.UPDATE, 2, 6);
        Check.message("all are told", x, 1, 2, 1, Check.UPDATE, 2, 6);
    }

    /** 2 asks a second time, with a lesser distance: only so is 1 not fine for one not its next. */
    private static void anotherAskerIsAnsweredBeforeAsking() {
        DiffusingRoutes x = Networks.settled(4, new int[] {0, 1, 1}, new int[] {0, 2, 1},
                new int[] {0, 3, 30}, new int[] {2, 3, 30}, new int[] {1, 2, 10});
        x.connect(0, 2, 95);
        Check.route("2 asks", x, 2, 0, 95, 1, 0, 1);
        Networks.deliverAll(x, 2, 1);
        x.connect(0, 1, 100);
        Check.route("1 goes by itself", x, 1, 0, 100, 1, 0, 0);
        x.connect(0, 2, 100);
        x.connect(0, 2, 70);
        Check.route("2 is grown", x, 2, 0, 95, 1, 0, 2);
        Networks.deliverAll(x, 2, 0);
        Networks.deliverAll(x, 2, 3);
        Networks.deliverAll(x, 0, 2);
        Networks.deliverAll(x, 3, 2);
        Networks.deliverAll(x, 1, 2);
        Check.route("2 asks again", x, 2, 0, 70, 1, 0, 1);
        Check.comes("2 asks 1", x, 2, 1, Check.QUERY);
        Check.route("1 asks, and is not asked", x, 1, 0, 100, 1, 0, 1);
        Check.due("1 waits for 2", true, x.waits(1, 2, 0));
        Check.message("1 answers", x, 1, 2, 0, Check.REPLY, 0, 100);
        Check.message("1 asks then", x, 1, 2, 1, Check.QUERY, 0, 100);
        Check.due("no more", 2, x.flight(1, 2));
    }

    private static void askedRouteAnswersAtItsEnd() {
        DiffusingRoutes x = Networks.line(2, 3);
        x.cut(0, 1);
        Check.route("0 is alone", x, 0, 2, Check.FAR, Check.FAR, Check.NONE, 0);
        Check.route("1 asks", x, 1, 0, Check.FAR, 2, Check.NONE, 1);
        Check.comes("1 asks", x, 1, 2, Check.QUERY);
        Check.route("2 is asked", x, 2, 0, Check.FAR, 5, 1, 3);
        Check.due("2 waits, too", true, x.waits(2, 1, 0));
        Check.due("2 asks, and does not answer", 1, x.flight(2, 1));
        Check.comes("2 asks 1", x, 2, 1, Check.QUERY);
        Check.message("1 is busy, and answers", x, 1, 2, 0, Check.REPLY, 0, Check.FAR);
        Check.comes("1 answers", x, 1, 2, Check.REPLY);
        Check.route("2 ends", x, 2, 0, Check.FAR, Check.FAR, Check.NONE, 0);
        Check.due("1 is told once", 1, x.flight(2, 1));
        Check.comes("2 answers 1", x, 2, 1, Check.REPLY);
        Check.route("1 ends", x, 1, 0, Check.FAR, Check.FAR, Check.NONE, 0);
        Check.comes("1 tells 2", x, 1, 2, Check.UPDATE);
        Check.due("all is quiet", 0, x.total(3));
    }

    private static void dearerLinkGrowsABusyRoute() {
        DiffusingRoutes x = Networks.dearTriangle();
        x.connect(0, 1, 50);
        Check.route("not the link to the next", x, 1, 2, 9, 1, 2, 1);
        x.connect(1, 2, 8);
        Check.route("a cheaper link", x, 1, 2, 9, 1, 2, 1);
        x.connect(1, 2, 9);
        Check.route("as dear as before", x, 1, 2, 9, 1, 2, 1);
        x.connect(1, 2, 10);
        Check.route("a dearer link", x, 1, 2, 9, 1, 2, 2);
        x.connect(1, 2, 1);
        Check.route("once grown", x, 1, 2, 9, 1, 2, 2);
    }

    private static void fartherNextGrowsABusyRoute() {
        DiffusingRoutes x = Networks.askingRing();
        Check.route("2 asks", x, 2, 0, 21, 2, 1, 1);
        Check.comes("1 asks of 2 and 3", x, 1, 2, Check.QUERY, Check.QUERY);
        x.connect(0, 1, 2);
        Check.comes("1 is farther from 0", x, 1, 2, Check.UPDATE);
        Check.due("1 told it", 2, x.told(2, 1, 0));
        Check.route("2 is grown", x, 2, 0, 21, 2, 1, 2);
    }

    private static void otherNeighboursDoNotGrowIt() {
        DiffusingRoutes x = Networks.askingRing();
        x.connect(3, 0, 100);
        Check.comes("2 asks of 0 and 1", x, 2, 3, Check.QUERY, Check.QUERY);
        Networks.deliverAll(x, 3, 2);
        Check.due("3 is farther now", 22, x.told(2, 3, 0));
        Check.route("2 waits for 1", x, 2, 0, 21, 2, 1, 1);
    }

    private static void grownRouteAsksAgain() {
        DiffusingRoutes x = Networks.askedAndGrown();
        Networks.deliverAll(x, 2, 1);
        Networks.deliverAll(x, 2, 3);
        Check.route("3 goes by itself", x, 3, 0, 5, 3, 0, 0);
        Check.route("1 waits for 0", x, 1, 0, 30, 1, 0, 1);
        int queries = x.total(1);
        Networks.deliverAll(x, 1, 2);
        Check.due("1 told", 30, x.told(2, 1, 0));
        Check.due("3 is waited for", true, x.waits(2, 3, 0));
        Networks.deliverAll(x, 3, 2);
        Check.route("2 asks again", x, 2, 0, 50, 2, 1, 3);
        Check.due("2 asks both again", queries + 2, x.total(1));
        Check.due("1 is waited for again", true, x.waits(2, 1, 0));
        Check.due("3 is waited for again", true, x.waits(2, 3, 0));
        Networks.deliverAll(x, 2, 1);
        Networks.deliverAll(x, 2, 3);
        Networks.deliverAll(x, 1, 2);
        Networks.deliverAll(x, 3, 2);
        Check.route("2 ends", x, 2, 0, 6, 6, 3, 0);
        int last = x.flight(2, 1) - 1;
        Check.message("2 answers 1, its next before", x, 2, 1, last, Check.REPLY, 0, 6);
        last = x.flight(2, 3) - 1;
        Check.message("2 tells 3", x, 2, 3, last, Check.UPDATE, 0, 6);
        x.run(200);
        Check.route("1 ends", x, 1, 0, 26, 26, 2, 0);
    }

    private static void lostNextIsNotAnswered() {
        DiffusingRoutes x = Networks.askedAndGrown();
        x.cut(1, 2);
        Check.route("not asked any more", x, 2, 0, 21, 2, Check.NONE, 2);
        Check.due("1 is not waited for", false, x.waits(2, 1, 0));
        Check.due("3 is waited for", true, x.waits(2, 3, 0));
        Networks.deliverAll(x, 2, 3);
        Networks.deliverAll(x, 3, 2);
        Check.route("2 asks again", x, 2, 0, Check.FAR, 2, Check.NONE, 1);
        x.run(200);
        Check.route("2 ends", x, 2, 0, 6, 6, 3, 0);
    }

    private static void farRouteDoesNotGrowByALoss() {
        DiffusingRoutes x = Networks.line(1, 1, 1);
        x.cut(0, 1);
        Check.comes("1 asks", x, 1, 2, Check.QUERY);
        Check.route("2 is asked", x, 2, 0, Check.FAR, 2, 1, 3);
        x.cut(1, 2);
        Check.route("2 has lost its next", x, 2, 0, Check.FAR, 2, Check.NONE, 1);
        Check.due("3 is waited for", true, x.waits(2, 3, 0));
    }

    private static void lastLinkEndsABusyRoute() {
        DiffusingRoutes x = Networks.askedAndGrown();
        x.cut(1, 2);
        x.cut(2, 3);
        Check.route("grown, and alone", x, 2, 0, Check.FAR, Check.FAR, Check.NONE, 0);
        Check.route("calm, and alone", x, 2, 3, Check.FAR, Check.FAR, Check.NONE, 0);
        DiffusingRoutes y = Networks.line(1, 1);
        y.cut(0, 1);
        Check.route("waits for 2", y, 1, 0, Check.FAR, 1, Check.NONE, 1);
        y.cut(1, 2);
        Check.route("not grown, and alone", y, 1, 0, Check.FAR, Check.FAR, Check.NONE, 0);
    }
}
