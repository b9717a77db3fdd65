import java.util.ArrayList;
import java.util.List;
import java.util.Map;
import java.util.TreeMap;

/**
 * The document's terms once more, as near to its words as can be and without regard to speed, to
 * hold the program against. It is used with right arguments alone.
 */
final class Model {
    static final int FAR = 10000;
    static final int NOBODY = -1;

    enum Kind { UPDATE, QUERY, REPLY }

    record Message(int from, int to, Kind kind, int target, int distance) { }

    /** What a route knows of one neighbour. */
    static final class Neighbour {
        int cost;
        int told = FAR;
        boolean awaited;

        int through() {
            return Math.min(FAR, told + cost);
        }
    }

    final int routers;
    final List<Message> onLinks = new ArrayList<>();
    final int[] sent = new int[Kind.values().length];
    final Route[][] routes;

    Model(int routers) {
        this.routers = routers;
        routes = new Route[routers][routers];
        for (int r = 0; r < routers; r++) {
            for (int t = 0; t < routers; t++) {
                routes[r][t] = new Route(r, t);
            }
        }
    }

    final class Route {
        final int router;
        final int target;
        final Map<Integer, Neighbour> neighbours = new TreeMap<>();
        int distance;
        int limit;
        int next = NOBODY;
        boolean busy;
        boolean asked;
        boolean grown;

        Route(int router, int target) {
            this.router = router;
            this.target = target;
            distance = isItself() ? 0 : FAR;
            limit = distance;
        }

        boolean isItself() {
            return router == target;
        }

        void tell(int neighbour, Kind kind) {
            onLinks.add(new Message(router, neighbour, kind, target, distance));
            sent[kind.ordinal()]++;
        }

        int throughNext() {
            return next == NOBODY ? FAR : neighbours.get(next).through();
        }

        int least() {
            return neighbours.values().stream().mapToInt(Neighbour::through).min().orElse(FAR);
        }

        /** The neighbours that make the route fine. */
        List<Integer> fineOnes() {
            int m = least();
            return neighbours.keySet().stream()
                    .filter(n -> neighbours.get(n).told < limit)
                    .filter(n -> neighbours.get(n).through() == m)
                    .toList();
        }

        boolean isFine() {
            return least() == FAR ? limit == FAR : !fineOnes().isEmpty();
        }

        void becomeFine() {
            int m = least();
            if (m == FAR) {
                next = NOBODY;
            } else if (!fineOnes().contains(next)) {
                next = fineOnes().get(0);
            }
            distance = m;
            if (limit > m) {
                limit = m;
            }
        }

        void look(int asker) {
            int before = distance;
            if (isFine()) {
                becomeFine();
                if (asker != NOBODY) {
                    tell(asker, Kind.REPLY);
                }
                if (distance != before) {
                    neighbours.keySet().stream().filter(n -> n != asker)
                            .forEach(n -> tell(n, Kind.UPDATE));
                }
                return;
            }
            distance = throughNext();
            busy = true;
            grown = false;
            asked = asker != NOBODY && asker == next;
            if (asker != NOBODY && asker != next) {
                tell(asker, Kind.REPLY);
            }
            askAll();
        }

        void askAll() {
            neighbours.keySet().forEach(n -> tell(n, Kind.QUERY));
            neighbours.values().forEach(n -> n.awaited = true);
            endIfNobodyIsAwaited();
        }

        void endIfNobodyIsAwaited() {
            if (neighbours.values().stream().noneMatch(n -> n.awaited)) {
                end();
            }
        }

        void end() {
            if (!grown) {
                limit = FAR;
            }
            if (!isFine()) {
                grown = false;
                distance = throughNext();
                askAll();
                return;
            }
            int replied = asked ? next : NOBODY;
            busy = false;
            becomeFine();
            if (replied != NOBODY) {
                tell(replied, Kind.REPLY);
            }
            neighbours.keySet().stream().filter(n -> n != replied)
                    .forEach(n -> tell(n, Kind.UPDATE));
        }

        void hear(Message message) {
            int from = message.from();
            boolean query = message.kind() == Kind.QUERY;
            if (isItself()) {
                if (query) {
                    tell(from, Kind.REPLY);
                }
                return;
            }
            neighbours.get(from).told = message.distance();
            if (!busy) {
                look(query ? from : NOBODY);
                return;
            }
            if (query && from == next) {
                asked = true;
                grown = true;
            } else if (query) {
                tell(from, Kind.REPLY);
            } else if (message.kind() == Kind.REPLY) {
                neighbours.get(from).awaited = false;
            }
            if (!query && from == next && throughNext() > distance) {
                grown = true;
            }
            endIfNobodyIsAwaited();
        }

        void costChanged(int neighbour) {
            if (isItself()) {
                return;
            }
            if (!busy) {
                look(NOBODY);
            } else if (next == neighbour && throughNext() > distance) {
                grown = true;
            }
        }

        void linkGone(int neighbour) {
            if (isItself()) {
                return;
            }
            boolean wasNext = next == neighbour;
            if (wasNext) {
                next = NOBODY;
            }
            if (!busy) {
                look(NOBODY);
                return;
            }
            if (wasNext) {
                asked = false;
                grown |= distance != FAR;
            }
            endIfNobodyIsAwaited();
        }
    }

    boolean isLink(int a, int b) {
        return routes[a][b].neighbours.containsKey(b);
    }

    int connect(int a, int b, int cost) {
        if (onLinks.size() > 100) {
            return DiffusingRoutes.FULL;
        }
        boolean isNew = !isLink(a, b);
        int[] both = {Math.min(a, b), Math.max(a, b)};
        for (int i = 0; i < 2; i++) {
            for (Route route : routes[both[i]]) {
                route.neighbours.computeIfAbsent(both[1 - i], n -> new Neighbour()).cost = cost;
            }
        }
        for (int i = 0; i < 2; i++) {
            for (Route route : routes[both[i]]) {
                if (!isNew) {
                    route.costChanged(both[1 - i]);
                } else if (route.distance != FAR) {
                    route.tell(both[1 - i], Kind.UPDATE);
                }
            }
        }
        return links();
    }

    int cut(int a, int b) {
        if (!isLink(a, b)) {
            return DiffusingRoutes.NONE;
        }
        if (onLinks.size() > 100) {
            return DiffusingRoutes.FULL;
        }
        int before = onLinks.size();
        onLinks.removeIf(m -> m.from() == a && m.to() == b || m.from() == b && m.to() == a);
        int lost = before - onLinks.size();
        for (int t = 0; t < routers; t++) {
            routes[a][t].neighbours.remove(b);
            routes[b][t].neighbours.remove(a);
        }
        for (Route route : routes[Math.min(a, b)]) {
            route.linkGone(Math.max(a, b));
        }
        for (Route route : routes[Math.max(a, b)]) {
            route.linkGone(Math.min(a, b));
        }
        return lost;
    }

    List<Message> onLink(int a, int b) {
        return onLinks.stream().filter(m -> m.from() == a && m.to() == b).toList();
    }

    int deliver(int a, int b) {
        if (!isLink(a, b)) {
            return DiffusingRoutes.NONE;
        }
        if (onLinks.size() > 400) {
            return DiffusingRoutes.FULL;
        }
        if (onLink(a, b).isEmpty()) {
            return 0;
        }
        Message message = onLink(a, b).get(0);
        // Equal messages on one link are alike, so that the first of them is this one.
        bring(onLinks.indexOf(message));
        return message.kind().ordinal() + 1;
    }

    void bring(int place) {
        Message message = onLinks.remove(place);
        routes[message.to()][message.target()].hear(message);
    }

    int run(int n) {
        int came = 0;
        while (came < n && !onLinks.isEmpty() && onLinks.size() <= 400) {
            bring(0);
            came++;
        }
        return came;
    }

    int links() {
        int ends = 0;
        for (Route[] ofOne : routes) {
            ends += ofOne[0].neighbours.size();
        }
        return ends / 2;
    }

    int busyRoutes() {
        int busy = 0;
        for (Route[] ofOne : routes) {
            for (Route route : ofOne) {
                busy += route.busy ? 1 : 0;
            }
        }
        return busy;
    }
}
