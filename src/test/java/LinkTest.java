/** Promises 1 (a new object), 2 (connect), 3 (cut) and 6 (cost), but for FULL. */
public final class LinkTest {
    private LinkTest() {
    }

    public static void main(String[] args) {
        newObjectHasTwoToSixRouters();
        newObjectIsEmpty();
        connectCountsLinks();
        connectNeedsTwoRouters();
        connectNeedsACostOfOneToAHundred();
        costIsTheSameBothWays();
        costWithoutLink();
        newLinkTellsWhatIsReached();
        newLinkTellsOfBusyRoutes();
        newLinkIsNotLookedAt();
        changedCostIsLookedAt();
        sameCostChangesNothing();
        changedCostGoesByNumbers();
        cutLosesTheMessagesOfItsLink();
        cutKeepsTheOrderOfOtherMessages();
        cutRefusesWhatIsNoLink();
        cutGoesByNumbers();
        linkThatComesAgainIsNew();
        Check.finish();
    }

    private static void newObjectHasTwoToSixRouters() {
        int[][] askedAndMade = {{Integer.MIN_VALUE, 2}, {-1, 2}, {0, 2}, {1, 2}, {2, 2}, {3, 3},
            {4, 4}, {5, 5}, {6, 6}, {7, 6}, {Integer.MAX_VALUE, 6}};
        for (int[] row : askedAndMade) {
            DiffusingRoutes x = new DiffusingRoutes(row[0]);
            int last = row[1] - 1;
            Check.due(row[0] + " routers, the last one", Check.FAR, x.distance(last, 0));
            Check.due(row[0] + " routers, as a target", Check.FAR, x.distance(0, last));
            Check.due(row[0] + " routers, one more", Check.NONE, x.distance(last + 1, 0));
            Check.due(row[0] + " routers, a link too far", Check.NONE, x.connect(0, last + 1, 1));
            Check.due(row[0] + " routers, the last link", 1, x.connect(0, last, 1));
        }
    }

    private static void newObjectIsEmpty() {
        DiffusingRoutes x = new DiffusingRoutes(3);
        for (int a = 0; a < 3; a++) {
            for (int b = 0; b < 3; b++) {
                int far = a == b ? 0 : Check.FAR;
                Check.route("new", x, a, b, far, far, Check.NONE, 0);
                Check.due("new, cost", Check.NONE, x.cost(a, b));
                Check.due("new, flight", Check.NONE, x.flight(a, b));
            }
        }
        for (int what = 0; what < 6; what++) {
            Check.due("new, total " + what, 0, x.total(what));
        }
    }

    private static void connectCountsLinks() {
        DiffusingRoutes x = new DiffusingRoutes(4);
        Check.due("first link", 1, x.connect(0, 1, 1));
        Check.due("second link", 2, x.connect(3, 1, 100));
        Check.due("a change", 2, x.connect(1, 0, 5));
        Check.due("third link", 3, x.connect(2, 0, 50));
        x.cut(1, 0);
        Check.due("after a cut", 3, x.connect(1, 2, 50));
    }

    /** One link of cost 7 between the first two of three routers; both have told of themselves. */
    private static DiffusingRoutes oneLink() {
        DiffusingRoutes x = new DiffusingRoutes(3);
        x.connect(0, 1, 7);
        return x;
    }

    private static void isAsOneLink(String what, DiffusingRoutes x) {
        Check.due(what + ", links as before", 1, x.total(5));
        Check.due(what + ", cost as before", 7, x.cost(0, 1));
        Check.due(what + ", messages as before", 2, x.total(3));
    }

    private static void connectNeedsTwoRouters() {
        DiffusingRoutes x = oneLink();
        int[][] wrong = {{0, 3}, {3, 0}, {-1, 0}, {0, -1}, {0, 0}, {1, 1}, {2, 2}, {3, 3}, {-1, -1},
            {Integer.MAX_VALUE, 0}, {0, Integer.MIN_VALUE}};
        for (int[] row : wrong) {
            Check.due("no two routers", Check.NONE, x.connect(row[0], row[1], 1));
        }
        isAsOneLink("no two routers", x);
    }

    private static void connectNeedsACostOfOneToAHundred() {
        DiffusingRoutes x = oneLink();
        for (int cost : new int[] {0, 101, -1, Integer.MIN_VALUE, Integer.MAX_VALUE}) {
            Check.due("a change to " + cost, Check.NONE, x.connect(0, 1, cost));
            Check.due("a new link of " + cost, Check.NONE, x.connect(0, 2, cost));
        }
        isAsOneLink("no cost", x);
        Check.due("the least cost, a change", 1, x.connect(0, 1, 1));
        Check.due("the greatest cost, a change", 1, x.connect(0, 1, 100));
        Check.due("the least cost, a new link", 2, x.connect(0, 2, 1));
        Check.due("the greatest cost, a new link", 3, x.connect(1, 2, 100));
    }

    private static void costIsTheSameBothWays() {
        DiffusingRoutes x = new DiffusingRoutes(3);
        x.connect(1, 0, 1);
        x.connect(1, 2, 100);
        Check.due("least cost", 1, x.cost(0, 1));
        Check.due("least cost, back", 1, x.cost(1, 0));
        Check.due("greatest cost", 100, x.cost(2, 1));
        Check.due("greatest cost, back", 100, x.cost(1, 2));
    }

    private static void costWithoutLink() {
        DiffusingRoutes x = oneLink();
        int[][] wrong = {{0, 2}, {2, 0}, {1, 1}, {-1, 0}, {0, -1}, {3, 0}, {0, 3}, {3, 3},
            {Integer.MIN_VALUE, Integer.MAX_VALUE}};
        for (int[] row : wrong) {
            Check.due("no link", Check.NONE, x.cost(row[0], row[1]));
        }
        x.cut(0, 1);
        Check.due("no link any more", Check.NONE, x.cost(0, 1));
        Check.due("no link any more, back", Check.NONE, x.cost(1, 0));
    }

    private static void newLinkTellsWhatIsReached() {
        DiffusingRoutes x = Networks.settled(5, new int[] {0, 1, 2}, new int[] {1, 2, 3});
        x.connect(3, 2, 4);
        Check.due("told to 3", 3, x.flight(2, 3));
        Check.message("told to 3", x, 2, 3, 0, Check.UPDATE, 0, 5);
        Check.message("told to 3", x, 2, 3, 1, Check.UPDATE, 1, 3);
        Check.message("told to 3", x, 2, 3, 2, Check.UPDATE, 2, 0);
        Check.due("told to 2", 1, x.flight(3, 2));
        Check.message("told to 2", x, 3, 2, 0, Check.UPDATE, 3, 0);
        Check.due("nobody else is told", 4, x.total(3));
        x.run(3);
        Check.due("2 told first", 9, x.distance(3, 0));
        Check.due("3 told then", Check.FAR, x.distance(2, 3));
        x.run(1);
        Check.due("3 has told", 4, x.distance(2, 3));
    }

    private static void newLinkTellsOfBusyRoutes() {
        DiffusingRoutes x = Networks.line(1, 1);
        x.cut(1, 0);
        Check.route("lost", x, 1, 0, Check.FAR, 1, Check.NONE, 1);
        Check.route("not lost", x, 1, 2, 1, 1, 2, 0);
        x.connect(1, 0, 4);
        Check.due("a far one is not told", 2, x.flight(1, 0));
        Check.message("itself", x, 1, 0, 0, Check.UPDATE, 1, 0);
        Check.message("the other one", x, 1, 0, 1, Check.UPDATE, 2, 1);
        Check.due("the new one is not waited for", false, x.waits(1, 0, 0));
        Check.due("the old one is", true, x.waits(1, 2, 0));
    }

    private static void newLinkIsNotLookedAt() {
        DiffusingRoutes x = new DiffusingRoutes(2);
        x.connect(0, 1, 7);
        Check.route("only told", x, 0, 1, Check.FAR, Check.FAR, Check.NONE, 0);
        Check.due("nothing came yet", Check.FAR, x.told(0, 1, 1));
    }

    private static void changedCostIsLookedAt() {
        DiffusingRoutes x = Networks.line(5);
        Check.route("before", x, 0, 1, 5, 5, 1, 0);
        Check.due("a change", 1, x.connect(1, 0, 9));
        Check.route("dearer", x, 0, 1, 9, 5, 1, 0);
        Check.route("dearer", x, 1, 0, 9, 5, 0, 0);
        Check.due("dearer is told", 1, x.flight(0, 1));
        Check.message("dearer is told", x, 0, 1, 0, Check.UPDATE, 1, 9);
        x.connect(0, 1, 3);
        Check.route("cheaper", x, 0, 1, 3, 3, 1, 0);
        Check.message("cheaper is told", x, 1, 0, 1, Check.UPDATE, 0, 3);
    }

    private static void sameCostChangesNothing() {
        DiffusingRoutes x = Networks.line(5, 6);
        Check.due("the same cost", 2, x.connect(0, 1, 5));
        Check.due("nobody is told", 0, x.total(3));
        Check.route("as before", x, 2, 0, 11, 11, 1, 0);
    }

    private static void changedCostGoesByNumbers() {
        DiffusingRoutes x = Networks.line(5, 6);
        x.connect(1, 0, 4);
        Check.message("targets by their numbers", x, 0, 1, 0, Check.UPDATE, 1, 4);
        Check.message("targets by their numbers", x, 0, 1, 1, Check.UPDATE, 2, 10);
        x.run(2);
        Check.due("0 told first", 0, x.flight(0, 1));
        Check.due("1 told then", 1, x.flight(1, 0));
        x.run(1);
        Check.due("1 told 0 before 2", 0, x.flight(1, 0));
        Check.due("1 told 2 last", 1, x.flight(1, 2));
    }

    private static void cutLosesTheMessagesOfItsLink() {
        DiffusingRoutes x = new DiffusingRoutes(3);
        x.connect(0, 1, 1);
        x.connect(1, 2, 1);
        Check.due("one each way is lost", 2, x.cut(1, 0));
        Check.due("the others stay", 2, x.total(3));
        Check.message("one there", x, 1, 2, 0, Check.UPDATE, 1, 0);
        Check.message("no more there", x, 1, 2, 1, Check.NONE, Check.NONE, Check.NONE);
        Check.message("one back", x, 2, 1, 0, Check.UPDATE, 2, 0);
        Check.message("no more back", x, 2, 1, 1, Check.NONE, Check.NONE, Check.NONE);
        Check.due("the link is gone", Check.NONE, x.cost(0, 1));
        Check.due("one link is left", 1, x.total(5));
        Check.due("0 has nothing to come", Check.NONE, x.flight(1, 0));
        Check.due("a link without messages", 0, Networks.line(3).cut(0, 1));
    }

    /** 0, 1, 2 and 3 in a ring; what is lost stands before, between and after what stays. */
    private static void cutKeepsTheOrderOfOtherMessages() {
        DiffusingRoutes x = new DiffusingRoutes(4);
        x.connect(0, 1, 1);
        x.connect(1, 2, 2);
        x.deliver(0, 1);
        x.connect(2, 3, 3);
        x.connect(0, 3, 4);
        x.deliver(3, 0);
        Check.message("1 has told 2", x, 1, 2, 1, Check.UPDATE, 0, 1);
        Check.due("three are lost", 3, x.cut(1, 0));
        Check.due("the others stay, and 1 asks 2", 8, x.total(3));
        Check.message("before", x, 1, 2, 0, Check.UPDATE, 1, 0);
        Check.message("between", x, 1, 2, 1, Check.UPDATE, 0, 1);
        int[][] order = {{1, 2}, {2, 1}, {1, 2}, {2, 3}, {3, 2}, {0, 3}, {0, 3}, {1, 2}};
        for (int[] link : order) {
            int before = x.flight(link[0], link[1]);
            x.run(1);
            Check.due("by order", before - 1, x.flight(link[0], link[1]));
        }
    }

    private static void cutRefusesWhatIsNoLink() {
        DiffusingRoutes x = new DiffusingRoutes(3);
        x.connect(0, 1, 1);
        int[][] wrong = {{0, 2}, {1, 1}, {-1, 0}, {0, -1}, {0, 3}, {3, 0}, {3, 3},
            {Integer.MAX_VALUE, Integer.MIN_VALUE}};
        for (int[] row : wrong) {
            Check.due("no link to cut", Check.NONE, x.cut(row[0], row[1]));
        }
        Check.due("nothing is lost", 2, x.total(3));
        Check.due("the link stays", 1, x.total(5));
        x.cut(0, 1);
        Check.due("it is gone already", Check.NONE, x.cut(0, 1));
    }

    private static void cutGoesByNumbers() {
        DiffusingRoutes x = Networks.line(1, 1, 1, 1);
        x.cut(2, 1);
        Check.message("targets by their numbers", x, 1, 0, 0, Check.QUERY, 2, Check.FAR);
        Check.message("targets by their numbers", x, 1, 0, 1, Check.QUERY, 3, Check.FAR);
        Check.message("targets by their numbers", x, 1, 0, 2, Check.QUERY, 4, Check.FAR);
        Check.message("targets by their numbers", x, 2, 3, 0, Check.QUERY, 0, Check.FAR);
        Check.message("targets by their numbers", x, 2, 3, 1, Check.QUERY, 1, Check.FAR);
        x.run(3);
        Check.due("1 asked first", 0, x.flight(1, 0));
        Check.due("2 asked then", 2, x.flight(2, 3));
    }

    private static void linkThatComesAgainIsNew() {
        DiffusingRoutes x = Networks.line(5);
        x.cut(0, 1);
        x.connect(0, 1, 5);
        Check.due("told is forgotten", Check.FAR, x.told(0, 1, 1));
        Check.route("the way is forgotten", x, 0, 1, Check.FAR, Check.FAR, Check.NONE, 0);
        Check.due("it is told again", 2, x.total(3));
    }
}
