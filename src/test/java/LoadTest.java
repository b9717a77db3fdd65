/** The answer FULL of promises 2, 3 and 4, and where run() of promise 5 stops. */
public final class LoadTest {
    private LoadTest() {
    }

    public static void main(String[] args) {
        linksChangeUpToAHundred();
        messagesComeUpToFourHundred();
        noneComesWithOneMore();
        runStopsAboveFourHundred();
        Check.finish();
    }

    private static void linksChangeUpToAHundred() {
        DiffusingRoutes x = Networks.line(1);
        for (int cost = 51; cost > 1; cost--) {
            x.connect(0, 1, cost);
        }
        Check.due("100", 100, x.total(3));
        Check.due("with 100", 1, x.connect(1, 0, 60));
        x.deliver(0, 1);
        Check.due("101", 101, x.total(3));
        Check.due("with 101", Check.FULL, x.connect(0, 1, 3));
        Check.due("wrong all the same", Check.NONE, x.connect(0, 2, 3));
        Check.due("wrong cost all the same", Check.NONE, x.connect(0, 1, 0));
        Check.due("nothing is done", 60, x.cost(0, 1));
        Check.due("nothing is looked at", 60, x.distance(0, 1));
        Check.due("cut with 101", Check.FULL, x.cut(0, 1));
        Check.due("no link all the same", Check.NONE, x.cut(0, 0));
        Check.due("nothing is lost", 101, x.total(3));
        Check.due("messages still come", 1, x.deliver(1, 0));
        Check.due("cut with 100", 100, x.cut(0, 1));
        Check.due("all are lost", 0, x.total(3));
    }

    /**
     * 5 hangs on 0 alone and comes nearer by and by; 1 to 4 hear it late and in the worst order, so
     * that each of them tells all the others again and again. 20 messages wait on each of the links
     * from 0 to 3 and from 0 to 4.
     */
    private static DiffusingRoutes flood() {
        DiffusingRoutes x = Networks.settled(6, new int[] {0, 1, 20}, new int[] {0, 2, 1},
                new int[] {0, 3, 1}, new int[] {0, 4, 1}, new int[] {1, 2, 20},
                new int[] {1, 3, 20}, new int[] {1, 4, 20}, new int[] {2, 3, 1},
                new int[] {2, 4, 20}, new int[] {3, 4, 20});
        x.connect(0, 5, 100);
        x.run(200);
        for (int cost = 60; cost > 40; cost--) {
            x.connect(0, 5, cost);
            Networks.deliverAll(x, 5, 0);
            Networks.deliverAll(x, 0, 5);
        }
        for (int[] link : new int[][] {{0, 1}, {1, 2}, {0, 2}, {2, 3}}) {
            Networks.deliverAll(x, link[0], link[1]);
        }
        return x;
    }

    private static void messagesComeUpToFourHundred() {
        DiffusingRoutes x = flood();
        Check.due("flooded", 376, x.total(3));
        for (int i = 0; i < 8; i++) {
            Check.comes("4 tells all four", x, 0, 4, Check.UPDATE);
        }
        Check.due("400", 400, x.total(3));
        Check.due("none on this link", 0, x.deliver(5, 0));
        Check.due("with 400", 1, x.deliver(0, 4));
        Check.due("403", 403, x.total(3));
        Check.due("with 403", Check.FULL, x.deliver(0, 4));
        Check.due("none on this link, with 403", Check.FULL, x.deliver(5, 0));
        Check.due("no link all the same", Check.NONE, x.deliver(1, 5));
        Check.due("nothing came", 11, x.flight(0, 4));
        Check.due("nothing comes", 0, x.run(200));
        Check.due("wrong all the same", Check.NONE, x.run(201));
        Check.due("nothing is lost", 403, x.total(3));
        Check.due("connect with 403", Check.FULL, x.connect(1, 5, 1));
        Check.due("cut with 403", Check.FULL, x.cut(0, 4));
    }

    private static void noneComesWithOneMore() {
        DiffusingRoutes x = flood();
        x.deliver(0, 3);
        x.deliver(0, 3);
        for (int i = 0; i < 9; i++) {
            x.deliver(0, 4);
        }
        Check.due("401", 401, x.total(3));
        Check.due("with 401", Check.FULL, x.deliver(0, 4));
        Check.due("run with 401", 0, x.run(200));
        Check.due("nothing came", 401, x.total(3));
    }

    /** What stands first is by turns for 3, which tells nobody, and for 4, which tells all four. */
    private static void runStopsAboveFourHundred() {
        DiffusingRoutes x = flood();
        Check.due("24 come", 24, x.run(24));
        Check.due("400", 400, x.total(3));
        Check.due("two more come", 2, x.run(200));
        Check.due("402", 402, x.total(3));
        Check.due("none comes", 0, x.run(1));
        DiffusingRoutes y = flood();
        Check.due("all at once", 26, y.run(200));
    }
}
