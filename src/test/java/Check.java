/** Compares answers with what is due, and prints those that are not as due. */
final class Check {
    static final int NONE = DiffusingRoutes.NONE;
    static final int FULL = DiffusingRoutes.FULL;
    static final int FAR = 10000;
    static final int UPDATE = 0;
    static final int QUERY = 1;
    static final int REPLY = 2;

    private static int right = 0;
    private static int wrong = 0;

    private Check() {
    }

    static void due(String what, int want, int got) {
        if (got == want) {
            right++;
        } else {
            wrong++;
            System.out.println(what + ": answered " + got + ", due is " + want);
        }
    }

    static void due(String what, boolean want, boolean got) {
        due(what, want ? 1 : 0, got ? 1 : 0);
    }

    /** The route of router r to t, by a row of its distance, limit, next and state. */
    static void route(String what, DiffusingRoutes x, int r, int t, int... row) {
        due(what + ", distance", row[0], x.distance(r, t));
        due(what + ", limit", row[1], x.limit(r, t));
        due(what + ", next", row[2], x.next(r, t));
        due(what + ", state", row[3], x.state(r, t));
    }

    /** Message k on the link from a to b, by a row of its kind, target and distance. */
    static void message(String what, DiffusingRoutes x, int a, int b, int k, int... row) {
        for (int i = 0; i < row.length; i++) {
            due(what + ", message " + k + ", " + i, row[i], x.message(a, b, k, i));
        }
    }

    /** What comes from a to b, one message after the other, by their kinds. */
    static void comes(String what, DiffusingRoutes x, int a, int b, int... kinds) {
        for (int kind : kinds) {
            due(what + ", from " + a + " to " + b, kind + 1, x.deliver(a, b));
        }
    }

    static boolean allRight() {
        return wrong == 0;
    }

    /** The last call of every test: tells how it went, also by the exit code. */
    static void finish() {
        System.out.println(right + " answers as due, " + wrong + " not as due");
        if (wrong != 0 || right == 0) {
            System.exit(1);
        }
    }
}
