import java.lang.reflect.Field;

/** Sets what no run of calls was seen to bring about, though the document has words for it. */
final class Inside {
    private Inside() {
    }

    static void setNext(DiffusingRoutes x, int r, int t, int next)
            throws ReflectiveOperationException {
        Object route = route(x, r, t);
        field(route, "next").setInt(route, next);
        Check.due("the next that was set", next, x.next(r, t));
    }

    static void setTold(DiffusingRoutes x, int r, int n, int t, int distance)
            throws ReflectiveOperationException {
        Object route = route(x, r, t);
        ((int[]) field(route, "told").get(route))[n] = distance;
        Check.due("the told that was set", distance, x.told(r, n, t));
    }

    private static Object route(DiffusingRoutes x, int r, int t)
            throws ReflectiveOperationException {
        for (Object route : (Object[]) field(x, "routes").get(x)) {
            if (field(route, "router").getInt(route) == r
                    && field(route, "target").getInt(route) == t) {
                return route;
            }
        }
        throw new NoSuchFieldException("no route of " + r + " to " + t);
    }

    private static Field field(Object owner, String name) throws ReflectiveOperationException {
        Field field = owner.getClass().getDeclaredField(name);
        field.setAccessible(true);
        return field;
    }
}
