/** Promise 15 (hops). */
public final class HopsTest {
    private HopsTest() {
    }

    public static void main(String[] args) throws ReflectiveOperationException {
        hopsCountLinks();
        hopsFromTheTarget();
        hopsNeedANextEverywhere();
        hopsEndInARing();
        hopsWithWrongArguments();
        Check.finish();
    }

    private static void hopsCountLinks() {
        DiffusingRoutes x = Networks.line(1, 20, 3, 100, 50);
        for (int r = 0; r < 6; r++) {
            for (int t = 0; t < 6; t++) {
                Check.due("from " + r + " to " + t, Math.abs(r - t), x.hops(r, t));
            }
        }
    }

    private static void hopsFromTheTarget() {
        DiffusingRoutes x = new DiffusingRoutes(6);
        Check.due("the first one, without links", 0, x.hops(0, 0));
        Check.due("the last one, without links", 0, x.hops(5, 5));
    }

    private static void hopsNeedANextEverywhere() {
        DiffusingRoutes x = Networks.line(1, 1, 1);
        x.cut(0, 1);
        Check.due("itself", 0, x.hops(1, 1));
        Check.due("1 has no next", Check.NONE, x.hops(1, 0));
        Check.due("3 and 2 have one still", 2, x.next(3, 0));
        Check.due("they end at 1", Check.NONE, x.hops(3, 0));
        Check.due("another target", 2, x.hops(3, 1));
        Check.due("a lone one", Check.NONE, x.hops(0, 3));
    }

    /**
     * That no run of calls makes a ring is what the network is for; so the nexts are set from
     * outside. With six routers the longest way has five links.
     */
    private static void hopsEndInARing() throws ReflectiveOperationException {
        DiffusingRoutes x = Networks.line(1, 1, 1, 1, 1);
        Check.due("all of them, no ring", 5, x.hops(5, 0));
        Inside.setNext(x, 1, 0, 5);
        Check.due("a ring of five", Check.NONE, x.hops(5, 0));
        Inside.setNext(x, 1, 0, 2);
        Check.due("a ring of two", Check.NONE, x.hops(1, 0));
        Check.due("a way into a ring", Check.NONE, x.hops(5, 0));
        Check.due("the target", 0, x.hops(0, 0));
        Check.due("another target", 1, x.hops(0, 1));
    }

    private static void hopsWithWrongArguments() {
        DiffusingRoutes x = Networks.line(1);
        int[][] wrong = {{-1, 0}, {0, -1}, {2, 0}, {0, 2}, {2, 2}, {-1, -1},
            {Integer.MIN_VALUE, 0}, {0, Integer.MAX_VALUE}};
        for (int[] row : wrong) {
            Check.due("no such router", Check.NONE, x.hops(row[0], row[1]));
        }
    }
}
