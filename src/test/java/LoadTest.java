/** FULL of promises 2, 3 and 4, where run() of promise 5 stops, and a long life of an object. */
public final class LoadTest {
    private LoadTest() {
    }

    public static void main(String[] args) {
        connectIsFullAboveAHundred();
        newLinkIsRefusedAboveAHundred();
        cutIsFullAboveAHundred();
        noneGoesBeforeFull();
        lookingIsNeverFull();
        messagesComeUpToFourHundred();
        noneComesWithOneMore();
        runStopsAboveFourHundred();
        moreThanAThousandMessagesComeInOrder();
        Check.finish();
    }

    /** Two routers that have told each other of 50 changes, the last cost being 2. */
    private static DiffusingRoutes hundred() {
        DiffusingRoutes x = Networks.line(1);
        for (int cost = 51; cost > 1; cost--) {
            x.connect(0, 1, cost);
        }
        Check.due("100", 100, x.total(3));
        return x;
    }

    /** As above, with a third router, a last cost of 60, and one message more. */
    private static DiffusingRoutes hundredAndOne() {
        DiffusingRoutes x = Networks.settled(3, new int[] {0, 1, 1});
        for (int cost = 51; cost > 1; cost--) {
            x.connect(0, 1, cost);
        }
        x.connect(0, 1, 60);
        x.deliver(0, 1);
        Check.due("101", 101, x.total(3));
        return x;
    }

    private static void isAsHundredAndOne(String what, DiffusingRoutes x) {
        Check.due(what + ", messages as before", 101, x.total(3));
        Check.due(what + ", nothing was sent", 106, x.total(0));
        Check.due(what + ", links as before", 1, x.total(5));
        Check.due(what + ", cost as before", 60, x.cost(0, 1));
        Check.route(what, x, 0, 1, 60, 1, 1, 0);
        Check.route(what, x, 1, 0, 60, 1, 0, 0);
    }

    private static void connectIsFullAboveAHundred() {
        DiffusingRoutes x = hundred();
        Check.due("with 100", 1, x.connect(1, 0, 60));
        Check.due("it is done", 60, x.cost(0, 1));
        Check.due("102", 102, x.total(3));
        Check.due("with 102", Check.FULL, x.connect(1, 0, 60));
        DiffusingRoutes y = hundredAndOne();
        Check.due("with 101", Check.FULL, y.connect(0, 1, 3));
        Check.due("with 101, the same cost", Check.FULL, y.connect(0, 1, 60));
        isAsHundredAndOne("a change", y);
    }

    private static void newLinkIsRefusedAboveAHundred() {
        DiffusingRoutes x = hundredAndOne();
        Check.due("with 101", Check.FULL, x.connect(2, 0, 3));
        isAsHundredAndOne("a new link", x);
        Check.due("it has not come", Check.NONE, x.cost(0, 2));
        Check.comes("one of 101", x, 0, 1, Check.UPDATE);
        Check.due("with 100", 2, x.connect(2, 0, 3));
    }

    private static void cutIsFullAboveAHundred() {
        DiffusingRoutes x = hundredAndOne();
        Check.due("with 101", Check.FULL, x.cut(0, 1));
        isAsHundredAndOne("cut", x);
        Check.comes("one of 101", x, 1, 0, Check.UPDATE);
        Check.due("with 100", 100, x.cut(0, 1));
        Check.due("all are lost", 0, x.total(3));
        Check.due("no link is left", 0, x.total(5));
    }

    private static void noneGoesBeforeFull() {
        DiffusingRoutes x = hundredAndOne();
        Check.due("connect, no router", Check.NONE, x.connect(0, 3, 3));
        Check.due("connect, the same", Check.NONE, x.connect(1, 1, 3));
        Check.due("connect, no cost", Check.NONE, x.connect(0, 1, 0));
        Check.due("cut, no link", Check.NONE, x.cut(0, 2));
        Check.due("cut, no router", Check.NONE, x.cut(0, 3));
        isAsHundredAndOne("none", x);
        DiffusingRoutes y = flood();
        y.run(200);
        Check.due("deliver, more than 400", Check.FULL, y.deliver(0, 4));
        Check.due("deliver, no link", Check.NONE, y.deliver(1, 5));
        Check.due("deliver, no router", Check.NONE, y.deliver(0, 6));
        Check.due("run, no such number", Check.NONE, y.run(201));
        Check.due("run, no such number", Check.NONE, y.run(-1));
    }

    /** Above 400 all that does not change anything answers as ever. */
    private static void lookingIsNeverFull() {
        DiffusingRoutes x = flood();
        x.run(200);
        Check.due("402", 402, x.total(3));
        Check.due("cost", 41, x.cost(5, 0));
        Check.due("distance", 41, x.distance(0, 5));
        Check.due("told", 0, x.told(0, 5, 5));
        Check.due("waits", false, x.waits(0, 5, 1));
        Check.due("flight", 0, x.flight(0, 5));
        Check.due("hops", 1, x.hops(0, 5));
        int last = x.flight(0, 4) - 1;
        Check.message("the last one to 4", x, 0, 4, last, Check.UPDATE, 5, 41);
        Check.due("message", Check.NONE, x.message(0, 4, last + 1, 0));
    }

    /**
     * 5 hangs on 0 alone and comes nearer by and by; 1 to 4 hear it late and in the worst order, so
     * that each of them tells all the others again and again. 20 messages wait on each of the links
     * from 0 to 3 and from 0 to 4.
     */
    private static DiffusingRoutes flood() {
        DiffusingRoutes x = Networks.settled(6, new int[] {0, 1, 20}, new int[] {0, 2, 1},
                new int[] {0, 3, 1}, new int[] {0, 4, 1}, new int[] {1, 2, 20},
                new int[] {1, 3, 20}, new int[] {1, 4, 20}, new int[] {2, 3, 1},
                new int[] {2, 4, 20}, new int[] {3, 4, 20});
        x.connect(0, 5, 100);
        x.run(200);
        for (int cost = 60; cost > 40; cost--) {
            x.connect(0, 5, cost);
            Networks.deliverAll(x, 5, 0);
            Networks.deliverAll(x, 0, 5);
        }
        for (int[] link : new int[][] {{0, 1}, {1, 2}, {0, 2}, {2, 3}}) {
            Networks.deliverAll(x, link[0], link[1]);
        }
        return x;
    }

    private static void messagesComeUpToFourHundred() {
        DiffusingRoutes x = flood();
        Check.due("flooded", 376, x.total(3));
        for (int i = 0; i < 8; i++) {
            Check.comes("4 tells all four", x, 0, 4, Check.UPDATE);
        }
        Check.due("400", 400, x.total(3));
        Check.due("none on this link", 0, x.deliver(5, 0));
        Check.due("with 400", 1, x.deliver(0, 4));
        Check.due("403", 403, x.total(3));
        Check.due("with 403", Check.FULL, x.deliver(0, 4));
        Check.due("none on this link, with 403", Check.FULL, x.deliver(5, 0));
        Check.due("no link all the same", Check.NONE, x.deliver(1, 5));
        Check.due("nothing came", 11, x.flight(0, 4));
        Check.due("nothing comes", 0, x.run(200));
        Check.due("wrong all the same", Check.NONE, x.run(201));
        Check.due("nothing is lost", 403, x.total(3));
        Check.due("connect with 403", Check.FULL, x.connect(1, 5, 1));
        Check.due("cut with 403", Check.FULL, x.cut(0, 4));
    }

    private static void noneComesWithOneMore() {
        DiffusingRoutes x = flood();
        x.deliver(0, 3);
        x.deliver(0, 3);
        for (int i = 0; i < 9; i++) {
            x.deliver(0, 4);
        }
        Check.due("401", 401, x.total(3));
        Check.due("with 401", Check.FULL, x.deliver(0, 4));
        Check.due("run with 401", 0, x.run(200));
        Check.due("nothing came", 401, x.total(3));
    }

    /** What stands first is by turns for 3, which tells nobody, and for 4, which tells all four. */
    private static void runStopsAboveFourHundred() {
        DiffusingRoutes x = flood();
        Check.due("24 come", 24, x.run(24));
        Check.due("400", 400, x.total(3));
        Check.due("two more come", 2, x.run(200));
        Check.due("402", 402, x.total(3));
        Check.due("none comes", 0, x.run(1));
        DiffusingRoutes y = flood();
        Check.due("all at once", 26, y.run(200));
    }

    /**
     * Five routers round 0, each change of a link being told to all of them; some 90 messages are
     * on links all the time, so that the thousandth is sent while others wait. These are some 450
     * of the 512 calls of an object.
     */
    private static void moreThanAThousandMessagesComeInOrder() {
        int[][] star = {{0, 1, 100}, {0, 2, 1}, {0, 3, 2}, {0, 4, 3}, {0, 5, 4}};
        DiffusingRoutes x = Networks.settled(6, star);
        Model model = new Model(6);
        for (int[] link : star) {
            model.connect(link[0], link[1], link[2]);
        }
        model.run(200);
        for (int cost = 99; model.sent[0] < 1060; cost--) {
            Check.due("connect", model.connect(0, 1, cost), x.connect(0, 1, cost));
            int more = Math.max(0, model.onLinks.size() - 90);
            Check.due("run", model.run(more), x.run(more));
        }
        Check.due("all that wait", 93, x.total(3));
        for (int[] link : star) {
            sameMessages(model, x, 0, link[1]);
            sameMessages(model, x, link[1], 0);
        }
        Check.due("all come", model.run(200), x.run(200));
        Check.due("all came", 0, x.total(3));
        Check.due("the last change has come", x.cost(0, 1) + 4, x.distance(5, 1));
    }

    private static void sameMessages(Model model, DiffusingRoutes x, int a, int b) {
        int k = 0;
        for (Model.Message due : model.onLink(a, b)) {
            Check.message("from " + a + " to " + b, x, a, b, k, due.kind().ordinal(),
                    due.target(), due.distance());
            k++;
        }
        Check.due("from " + a + " to " + b, k, x.flight(a, b));
    }
}
