import java.util.Random;

/** What the document says the network is for: never a ring, and in the end the shortest ways. */
public final class NatureTest {
    private static final int RUNS = 2000;
    private static final int CHANGES = 10;

    private NatureTest() {
    }

    public static void main(String[] args) {
        for (int seed = 0; seed < RUNS && Check.allRight(); seed++) {
            Random random = new Random(seed);
            int routers = 2 + random.nextInt(5);
            DiffusingRoutes x = new DiffusingRoutes(routers);
            for (int i = 0; i < CHANGES; i++) {
                changeLink(x, routers, random);
                deliverSome(x, routers, random);
                noRing("seed " + seed, x, routers, random.nextInt(routers));
            }
            for (int i = 0; i < 5; i++) {
                x.run(200);
            }
            Check.due("seed " + seed + ", messages in the end", 0, x.total(3));
            shortestWays("seed " + seed, x, routers);
        }
        Check.finish();
    }

    private static void changeLink(DiffusingRoutes x, int routers, Random random) {
        int a = random.nextInt(routers);
        int b = random.nextInt(routers);
        if (random.nextInt(4) == 0) {
            x.cut(a, b);
        } else {
            x.connect(a, b, 1 + random.nextInt(100));
        }
    }

    private static void deliverSome(DiffusingRoutes x, int routers, Random random) {
        for (int i = random.nextInt(10); i > 0; i--) {
            x.deliver(random.nextInt(routers), random.nextInt(routers));
        }
        x.run(random.nextInt(10));
    }

    private static void noRing(String what, DiffusingRoutes x, int routers, int t) {
        for (int r = 0; r < routers; r++) {
            int at = r;
            for (int links = 0; links < routers && at != t && at != Check.NONE; links++) {
                at = x.next(at, t);
            }
            Check.due(what + ", a ring", false, at != t && at != Check.NONE);
        }
    }

    private static void shortestWays(String what, DiffusingRoutes x, int routers) {
        int[][] shortest = new int[routers][routers];
        for (int a = 0; a < routers; a++) {
            for (int b = 0; b < routers; b++) {
                int cost = x.cost(a, b);
                shortest[a][b] = a == b ? 0 : cost == Check.NONE ? Check.FAR : cost;
            }
        }
        for (int via = 0; via < routers; via++) {
            for (int a = 0; a < routers; a++) {
                for (int b = 0; b < routers; b++) {
                    int detour = shortest[a][via] + shortest[via][b];
                    shortest[a][b] = Math.min(shortest[a][b], detour);
                }
            }
        }
        Check.due(what + ", busy routes", 0, x.total(4));
        for (int a = 0; a < routers; a++) {
            for (int b = 0; b < routers; b++) {
                Check.due(what + ", from " + a + " to " + b, shortest[a][b], x.distance(a, b));
            }
        }
    }
}
