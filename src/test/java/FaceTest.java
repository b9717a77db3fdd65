import java.lang.reflect.Constructor;
import java.lang.reflect.Field;
import java.lang.reflect.Method;
import java.lang.reflect.Modifier;
import java.util.Arrays;
import java.util.Random;
import java.util.Set;
import java.util.TreeSet;
import java.util.stream.Collectors;

/** The public face as the document has it, and that no arguments make a call throw. */
public final class FaceTest {
    private static final Set<String> FACE = Set.of(
            "int NONE", "int FULL", "new(int)", "int connect(int, int, int)", "int cut(int, int)",
            "int deliver(int, int)", "int run(int)", "int cost(int, int)", "int distance(int, int)",
            "int limit(int, int)", "int next(int, int)", "int state(int, int)",
            "int told(int, int, int)", "boolean waits(int, int, int)", "int flight(int, int)",
            "int message(int, int, int, int)", "int hops(int, int)", "int total(int)");

    private FaceTest() {
    }

    public static void main(String[] args) throws ReflectiveOperationException {
        Check.due("NONE", -1, DiffusingRoutes.NONE);
        Check.due("FULL", -2, DiffusingRoutes.FULL);
        int shape = DiffusingRoutes.class.getModifiers();
        Check.due("public and final", true, Modifier.isPublic(shape) && Modifier.isFinal(shape));
        faceIsThatOfTheDocument();
        privateMethodsHaveNamesOfTheirOwn();
        noCallThrows();
        Check.finish();
    }

    private static void faceIsThatOfTheDocument() {
        Set<String> seen = new TreeSet<>();
        for (Field field : DiffusingRoutes.class.getDeclaredFields()) {
            if (!Modifier.isPrivate(field.getModifiers())) {
                seen.add(field.getType() + " " + field.getName());
            }
        }
        for (Constructor<?> made : DiffusingRoutes.class.getDeclaredConstructors()) {
            if (!Modifier.isPrivate(made.getModifiers())) {
                seen.add("new" + list(made.getParameterTypes()));
            }
        }
        for (Method method : DiffusingRoutes.class.getDeclaredMethods()) {
            if (!Modifier.isPrivate(method.getModifiers())) {
                String type = method.getReturnType().toString();
                seen.add(type + " " + method.getName() + list(method.getParameterTypes()));
            }
        }
        Set<String> differing = new TreeSet<>(seen);
        differing.addAll(FACE);
        differing.removeIf(member -> seen.contains(member) && FACE.contains(member));
        Check.due("members that differ " + differing, 0, differing.size());
    }

    /** Rule 1 of LANGUAGE.md. */
    private static void privateMethodsHaveNamesOfTheirOwn() {
        Set<String> names = new TreeSet<>();
        for (Method method : DiffusingRoutes.class.getDeclaredMethods()) {
            if (Modifier.isPublic(method.getModifiers())) {
                names.add(method.getName());
            }
        }
        for (Method method : DiffusingRoutes.class.getDeclaredMethods()) {
            if (Modifier.isPrivate(method.getModifiers())) {
                Check.due("a name used twice: " + method.getName(), false,
                        names.contains(method.getName()));
            }
        }
    }

    private static String list(Class<?>[] types) {
        return Arrays.stream(types).map(Class::getName).collect(Collectors.joining(", ", "(", ")"));
    }

    private static void noCallThrows() throws ReflectiveOperationException {
        Random random = new Random(1);
        for (int i = 0; i < 500; i++) {
            DiffusingRoutes x = new DiffusingRoutes(anyNumber(random));
            for (int call = 0; call < 512; call++) {
                Method[] methods = DiffusingRoutes.class.getMethods();
                Method method = methods[random.nextInt(methods.length)];
                if (method.getDeclaringClass() == DiffusingRoutes.class) {
                    method.invoke(x, someNumbers(random, method.getParameterCount()));
                }
            }
        }
        Check.due("no call threw", true, true);
    }

    private static Object[] someNumbers(Random random, int count) {
        Object[] numbers = new Object[count];
        for (int i = 0; i < count; i++) {
            numbers[i] = anyNumber(random);
        }
        return numbers;
    }

    private static int anyNumber(Random random) {
        switch (random.nextInt(12)) {
            case 0:
                return random.nextInt();
            case 1:
                return Integer.MIN_VALUE;
            case 2:
                return Integer.MAX_VALUE;
            case 3:
                return random.nextInt(300);
            default:
                return random.nextInt(9) - 1;
        }
    }
}
