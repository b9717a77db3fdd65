import java.util.List;
import java.util.Random;

/** Random runs of calls, the same ones each time, each answer held against the model's. */
public final class ModelTest {
    private static final int RUNS = 3000;
    /** With at most 5 more and the 186 of the look at everything, an object has its 512 calls. */
    private static final int CALLS = 321;

    private final Random random;
    private final int seed;
    private final int routers;
    private final int dearest;
    private final int changesInTwenty;
    private final int longRunsInThirty;
    private final DiffusingRoutes real;
    private final Model model;
    private int calls = 0;

    private ModelTest(int seed) {
        this.seed = seed;
        random = new Random(seed);
        routers = 2 + random.nextInt(5);
        dearest = random.nextBoolean() ? 100 : 6;
        changesInTwenty = 1 + random.nextInt(12);
        longRunsInThirty = random.nextInt(3) == 0 ? 25 : 1;
        real = new DiffusingRoutes(routers);
        model = new Model(routers);
    }

    public static void main(String[] args) {
        for (int seed = 0; seed < RUNS && Check.allRight(); seed++) {
            ModelTest test = new ModelTest(seed);
            while (test.calls < CALLS && Check.allRight()) {
                test.callSomething();
            }
            test.lookAtEverything();
        }
        Check.finish();
    }

    private void callSomething() {
        int a = random.nextInt(routers);
        int b = random.nextInt(routers);
        if (random.nextInt(20) < changesInTwenty) {
            changeLink(a, b);
            return;
        }
        switch (random.nextInt(9)) {
            case 0, 1, 2, 3 -> due("deliver", model.deliver(a, b), real.deliver(a, b), a, b);
            case 4 -> {
                int n = random.nextInt(30) < longRunsInThirty ? 200 : random.nextInt(8);
                due("run", model.run(n), real.run(n), n);
            }
            case 5 -> lookAtRoute(a, b);
            case 6 -> lookAtNeighbour(a, b, random.nextInt(routers));
            case 7 -> lookAtLink(a, b);
            default -> lookAtTotals();
        }
    }

    private void changeLink(int a, int b) {
        if (random.nextInt(4) == 0) {
            due("cut", model.cut(a, b), real.cut(a, b), a, b);
        } else if (a != b) {
            int cost = 1 + random.nextInt(dearest);
            due("connect", model.connect(a, b, cost), real.connect(a, b, cost), a, b, cost);
        }
    }

    private void lookAtRoute(int r, int t) {
        Model.Route route = model.routes[r][t];
        int state = route.busy ? 1 + (route.grown ? 1 : 0) + (route.asked ? 2 : 0) : 0;
        due("distance", route.distance, real.distance(r, t), r, t);
        due("limit", route.limit, real.limit(r, t), r, t);
        due("next", route.next, real.next(r, t), r, t);
        due("state", state, real.state(r, t), r, t);
        due("hops", hops(r, t), real.hops(r, t), r, t);
    }

    private int hops(int r, int t) {
        int hops = 0;
        boolean[] seen = new boolean[routers];
        for (int at = r; at != t; at = model.routes[at][t].next) {
            if (at == Model.NOBODY || seen[at]) {
                return DiffusingRoutes.NONE;
            }
            seen[at] = true;
            hops++;
        }
        return hops;
    }

    private void lookAtNeighbour(int r, int n, int t) {
        Model.Neighbour neighbour = model.routes[r][t].neighbours.get(n);
        int told = neighbour == null || r == t ? DiffusingRoutes.NONE : neighbour.told;
        due("told", told, real.told(r, n, t), r, n, t);
        boolean waits = neighbour != null && neighbour.awaited;
        due("waits", waits ? 1 : 0, real.waits(r, n, t) ? 1 : 0, r, n, t);
    }

    private void lookAtLink(int a, int b) {
        List<Model.Message> messages = model.onLink(a, b);
        boolean isLink = model.isLink(a, b);
        due("cost", isLink ? model.routes[a][b].neighbours.get(b).cost : DiffusingRoutes.NONE,
                real.cost(a, b), a, b);
        due("flight", isLink ? messages.size() : DiffusingRoutes.NONE, real.flight(a, b), a, b);
        if (!messages.isEmpty()) {
            int k = random.nextInt(messages.size());
            Model.Message message = messages.get(k);
            due("message", message.kind().ordinal(), real.message(a, b, k, 0), a, b, k, 0);
            due("message", message.target(), real.message(a, b, k, 1), a, b, k, 1);
            due("message", message.distance(), real.message(a, b, k, 2), a, b, k, 2);
        }
    }

    private void lookAtTotals() {
        for (int kind = 0; kind < 3; kind++) {
            due("total", model.sent[kind], real.total(kind), kind);
        }
        due("total", model.onLinks.size(), real.total(3), 3);
        due("total", model.busyRoutes(), real.total(4), 4);
        due("total", model.links(), real.total(5), 5);
    }

    private void lookAtEverything() {
        lookAtTotals();
        for (int a = 0; a < routers; a++) {
            for (int b = 0; b < routers; b++) {
                lookAtRoute(a, b);
            }
        }
    }

    private void due(String call, int want, int got, int... arguments) {
        calls++;
        StringBuilder told = new StringBuilder("seed ").append(seed).append(": ").append(call);
        for (int argument : arguments) {
            told.append(' ').append(argument);
        }
        Check.due(told.toString(), want, got);
    }
}
