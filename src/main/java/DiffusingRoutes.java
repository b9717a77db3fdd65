import java.util.Arrays;

/**
 * A network of routers that find the shortest ways without ever sending in a ring: a router goes on
 * by itself as long as a neighbour is surely nearer, and otherwise asks all its neighbours, and
 * waits, before it takes a longer way.
 */
public final class DiffusingRoutes {
    public static final int NONE = -1;
    public static final int FULL = -2;

    private static final int FAR = 10000;
    private static final int LEAST_ROUTERS = 2;
    private static final int MOST_ROUTERS = 6;
    private static final int MOST_COST = 100;
    private static final int MOST_RUN = 200;
    private static final int MOST_FOR_CHANGE = 100;
    private static final int MOST_FOR_DELIVERY = 400;
    private static final int UPDATE = 0;
    private static final int QUERY = 1;
    private static final int REPLY = 2;
    private static final int KINDS = 3;

    private final int routers;
    /** The cost of each link, both ways; 0 where there is no link. */
    private final int[][] costs;
    /** All routes, those of one router together, by their targets. */
    private final Route[] routes;
    private final Mail mail;
    private int links;

    public DiffusingRoutes(int routers) {
        this.routers = Math.max(LEAST_ROUTERS, Math.min(MOST_ROUTERS, routers));
        costs = new int[this.routers][this.routers];
        routes = new Route[this.routers * this.routers];
        for (int i = 0; i < routes.length; i++) {
            int router = i / this.routers;
            routes[i] = new Route(router, i % this.routers, costs[router]);
        }
        mail = new Mail();
    }

    public int connect(int a, int b, int cost) {
        if (!isRouter(a) || !isRouter(b) || a == b || cost < 1 || cost > MOST_COST) {
            return NONE;
        }
        if (mail.size() > MOST_FOR_CHANGE) {
            return FULL;
        }
        boolean isNew = costs[a][b] == 0;
        costs[a][b] = cost;
        costs[b][a] = cost;
        int lesser = Math.min(a, b);
        int greater = Math.max(a, b);
        if (isNew) {
            links++;
            greet(lesser, greater);
            greet(greater, lesser);
        } else {
            weighAgain(lesser, greater);
            weighAgain(greater, lesser);
        }
        return links;
    }

    public int cut(int a, int b) {
        if (!isLink(a, b)) {
            return NONE;
        }
        if (mail.size() > MOST_FOR_CHANGE) {
            return FULL;
        }
        int lost = mail.drop(a, b) + mail.drop(b, a);
        costs[a][b] = 0;
        costs[b][a] = 0;
        links--;
        int lesser = Math.min(a, b);
        int greater = Math.max(a, b);
        lose(lesser, greater);
        lose(greater, lesser);
        return lost;
    }

    public int deliver(int a, int b) {
        if (!isLink(a, b)) {
            return NONE;
        }
        if (mail.size() > MOST_FOR_DELIVERY) {
            return FULL;
        }
        int place = mail.find(a, b, 0);
        return place == NONE ? 0 : bring(place) + 1;
    }

    public int run(int n) {
        if (n < 0 || n > MOST_RUN) {
            return NONE;
        }
        int came = 0;
        while (came < n && mail.size() > 0 && mail.size() <= MOST_FOR_DELIVERY) {
            bring(mail.first);
            came++;
        }
        return came;
    }

    public int cost(int a, int b) {
        return isLink(a, b) ? costs[a][b] : NONE;
    }

    public int distance(int r, int t) {
        return isRoute(r, t) ? route(r, t).distance : NONE;
    }

    public int limit(int r, int t) {
        return isRoute(r, t) ? route(r, t).limit : NONE;
    }

    public int next(int r, int t) {
        return isRoute(r, t) ? route(r, t).next : NONE;
    }

    public int state(int r, int t) {
        if (!isRoute(r, t)) {
            return NONE;
        }
        Route route = route(r, t);
        if (!route.busy) {
            return 0;
        }
        return 1 + (route.grown ? 1 : 0) + (route.asked ? 2 : 0);
    }

    public int told(int r, int n, int t) {
        if (!isRoute(r, t) || r == t || !isLink(r, n)) {
            return NONE;
        }
        return route(r, t).told[n];
    }

    public boolean waits(int r, int n, int t) {
        return isRoute(r, t) && isRouter(n) && route(r, t).awaited[n];
    }

    public int flight(int a, int b) {
        return isLink(a, b) ? mail.count(a, b) : NONE;
    }

    public int message(int a, int b, int k, int what) {
        int place = isLink(a, b) ? mail.find(a, b, k) : NONE;
        if (place == NONE) {
            return NONE;
        }
        int letter = mail.row[place];
        switch (what) {
            case 0:
                return Mail.kindOf(letter);
            case 1:
                return Mail.targetOf(letter);
            case 2:
                return Mail.distanceOf(letter);
            default:
                return NONE;
        }
    }

    public int hops(int r, int t) {
        if (!isRoute(r, t)) {
            return NONE;
        }
        int at = r;
        // Whoever has not arrived after as many links as there are routers has been somewhere twice.
        for (int gone = 0; gone < routers; gone++) {
            if (at == t) {
                return gone;
            }
            at = route(at, t).next;
            if (at == NONE) {
                return NONE;
            }
        }
        return NONE;
    }

    public int total(int what) {
        switch (what) {
            case UPDATE:
            case QUERY:
            case REPLY:
                return mail.sent[what];
            case 3:
                return mail.size();
            case 4:
                return countBusy();
            case 5:
                return links;
            default:
                return NONE;
        }
    }

    private boolean isRouter(int r) {
        return r >= 0 && r < routers;
    }

    private boolean isRoute(int r, int t) {
        return isRouter(r) && isRouter(t);
    }

    private boolean isLink(int a, int b) {
        return isRouter(a) && isRouter(b) && costs[a][b] > 0;
    }

    private Route route(int router, int target) {
        return routes[router * routers + target];
    }

    private int countBusy() {
        int busy = 0;
        for (Route route : routes) {
            if (route.busy) {
                busy++;
            }
        }
        return busy;
    }

    /** A link has come: the router tells its new neighbour all that it can reach. */
    private void greet(int router, int neighbour) {
        for (int target = 0; target < routers; target++) {
            Route route = route(router, target);
            if (route.distance != FAR) {
                mail.send(route, neighbour, UPDATE);
            }
        }
    }

    /** The cost of the link to this neighbour has changed. */
    private void weighAgain(int router, int neighbour) {
        for (int target = 0; target < routers; target++) {
            Route route = route(router, target);
            if (route.isOwn()) {
                continue;
            }
            if (route.busy) {
                route.growIfFarther(neighbour);
            } else {
                look(route, NONE);
            }
            endIfDone(route);
        }
    }

    /** The link to this neighbour is gone. */
    private void lose(int router, int neighbour) {
        for (int target = 0; target < routers; target++) {
            Route route = route(router, target);
            if (route.isOwn()) {
                continue;
            }
            route.forget(neighbour);
            if (!route.busy) {
                look(route, NONE);
            }
            endIfDone(route);
        }
    }

    /** Takes the message at this place off its link and lets it be heard; answers its kind. */
    private int bring(int place) {
        int letter = mail.take(place);
        int from = Mail.senderOf(letter);
        int kind = Mail.kindOf(letter);
        Route route = route(Mail.receiverOf(letter), Mail.targetOf(letter));
        if (!route.isOwn()) {
            route.told[from] = Mail.distanceOf(letter);
            hear(route, from, kind);
        } else if (kind == QUERY) {
            mail.send(route, from, REPLY);
        }
        return kind;
    }

    private void hear(Route route, int from, int kind) {
        if (!route.busy) {
            look(route, kind == QUERY ? from : NONE);
        } else if (kind != QUERY) {
            if (kind == REPLY) {
                route.awaited[from] = false;
            }
            route.growIfFarther(from);
        } else if (from == route.next) {
            route.asked = true;
            route.grown = true;
        } else {
            mail.send(route, from, REPLY);
        }
        endIfDone(route);
    }

    /**
     * A calm route looks, for the neighbour that asked, or for NONE. The caller calls endIfDone()
     * afterwards, because a route that becomes busy without neighbours ends at once.
     */
    private void look(Route route, int asker) {
        int before = route.distance;
        if (route.takeBest()) {
            if (asker != NONE) {
                mail.send(route, asker, REPLY);
            }
            if (route.distance != before) {
                updateAllBut(route, asker);
            }
            return;
        }
        route.busy = true;
        route.asked = asker != NONE && asker == route.next;
        route.measureAnew();
        if (asker != NONE && !route.asked) {
            mail.send(route, asker, REPLY);
        }
        askAll(route);
    }

    private void endIfDone(Route route) {
        // Two rounds are enough: a route that asked again is not grown, and so is fine next time.
        for (int round = 0; round < 2 && route.busy && !route.isWaiting(); round++) {
            int asker = route.asked ? route.next : NONE;
            if (!route.grown) {
                route.limit = FAR;
            }
            if (route.takeBest()) {
                route.calmDown();
                if (asker != NONE) {
                    mail.send(route, asker, REPLY);
                }
                updateAllBut(route, asker);
            } else {
                route.measureAnew();
                askAll(route);
            }
        }
    }

    private void askAll(Route route) {
        for (int n = 0; n < routers; n++) {
            if (route.isNeighbour(n)) {
                mail.send(route, n, QUERY);
                route.awaited[n] = true;
            }
        }
    }

    private void updateAllBut(Route route, int except) {
        for (int n = 0; n < routers; n++) {
            if (n != except && route.isNeighbour(n)) {
                mail.send(route, n, UPDATE);
            }
        }
    }

    /** What one router knows of the way to one target. */
    private static final class Route {
        final int router;
        final int target;
        /** The costs of the router's links, as the network holds them. */
        final int[] costs;
        final int[] told;
        final boolean[] awaited;
        int distance;
        int limit;
        int next;
        boolean busy;
        boolean asked;
        boolean grown;

        Route(int router, int target, int[] costs) {
            this.router = router;
            this.target = target;
            this.costs = costs;
            told = new int[costs.length];
            Arrays.fill(told, FAR);
            awaited = new boolean[costs.length];
            distance = router == target ? 0 : FAR;
            limit = distance;
            next = NONE;
        }

        boolean isOwn() {
            return router == target;
        }

        boolean isNeighbour(int n) {
            return costs[n] > 0;
        }

        boolean isWaiting() {
            for (boolean one : awaited) {
                if (one) {
                    return true;
                }
            }
            return false;
        }

        int through(int n) {
            if (n == NONE || costs[n] == 0) {
                return FAR;
            }
            return Math.min(FAR, told[n] + costs[n]);
        }

        /** Takes the shortest way if the route is fine; otherwise nothing changes. */
        boolean takeBest() {
            int least = least();
            int best = least == FAR ? NONE : best(least);
            boolean fine = least == FAR ? limit == FAR : best != NONE;
            if (fine) {
                next = best;
                distance = least;
                limit = Math.min(limit, least);
            }
            return fine;
        }

        int least() {
            int least = FAR;
            for (int n = 0; n < costs.length; n++) {
                least = Math.min(least, through(n));
            }
            return least;
        }

        /** A neighbour that is surely nearer and through which it is this far, or NONE. */
        int best(int far) {
            int best = NONE;
            for (int n = 0; n < costs.length; n++) {
                boolean serves = told[n] < limit && through(n) == far;
                if (serves && (best == NONE || n == next)) {
                    best = n;
                }
            }
            return best;
        }

        /** Before all are asked: the way that it has counts, however long it is now. */
        void measureAnew() {
            grown = false;
            distance = through(next);
        }

        void growIfFarther(int neighbour) {
            if (neighbour == next && through(neighbour) > distance) {
                grown = true;
            }
        }

        void calmDown() {
            busy = false;
            asked = false;
            grown = false;
        }

        /** The link to this neighbour is gone, and all that hung on it. */
        void forget(int neighbour) {
            told[neighbour] = FAR;
            awaited[neighbour] = false;
            if (neighbour != next) {
                return;
            }
            next = NONE;
            if (busy) {
                asked = false;
                grown = grown || distance != FAR;
            }
        }
    }

    /** The messages on all links, in the order in which they were sent. */
    private static final class Mail {
        /** Far above 400 and what one call can send beyond that, so that the row seldom moves. */
        static final int ROOM = 1024;
        static final int TARGET_SHIFT = 14;
        static final int KIND_SHIFT = 17;
        static final int RECEIVER_SHIFT = 19;
        static final int SENDER_SHIFT = 22;

        /** Each message is one number, so that sending makes no object. */
        final int[] row = new int[ROOM];
        final int[] sent = new int[KINDS];
        /** The messages stand at the places first .. end - 1. */
        int first;
        int end;

        static int senderOf(int letter) {
            return letter >> SENDER_SHIFT;
        }

        static int receiverOf(int letter) {
            return (letter >> RECEIVER_SHIFT) & 7;
        }

        static int kindOf(int letter) {
            return (letter >> KIND_SHIFT) & 3;
        }

        static int targetOf(int letter) {
            return (letter >> TARGET_SHIFT) & 7;
        }

        static int distanceOf(int letter) {
            return letter & ((1 << TARGET_SHIFT) - 1);
        }

        int size() {
            return end - first;
        }

        /** Tells the route's target and distance to a neighbour of its router. */
        void send(Route route, int to, int kind) {
            if (end == ROOM) {
                System.arraycopy(row, first, row, 0, size());
                end = size();
                first = 0;
            }
            if (end == ROOM) {
                return;
            }
            row[end] = route.router << SENDER_SHIFT | to << RECEIVER_SHIFT | kind << KIND_SHIFT
                    | route.target << TARGET_SHIFT | route.distance;
            end++;
            sent[kind]++;
        }

        boolean isFromTo(int place, int from, int to) {
            return senderOf(row[place]) == from && receiverOf(row[place]) == to;
        }

        int count(int from, int to) {
            int count = 0;
            for (int place = first; place < end; place++) {
                if (isFromTo(place, from, to)) {
                    count++;
                }
            }
            return count;
        }

        /** The place of the message before which k others stand on the link, or NONE. */
        int find(int from, int to, int k) {
            int before = 0;
            for (int place = first; place < end; place++) {
                if (isFromTo(place, from, to)) {
                    if (before == k) {
                        return place;
                    }
                    before++;
                }
            }
            return NONE;
        }

        /** Takes the message at this place out of the row. */
        int take(int place) {
            int letter = row[place];
            System.arraycopy(row, first, row, first + 1, place - first);
            first++;
            return letter;
        }

        /** Loses all messages from one router to another; answers how many. */
        int drop(int from, int to) {
            int kept = first;
            for (int place = first; place < end; place++) {
                if (!isFromTo(place, from, to)) {
                    row[kept] = row[place];
                    kept++;
                }
            }
            int lost = end - kept;
            end = kept;
            return lost;
        }
    }
}
