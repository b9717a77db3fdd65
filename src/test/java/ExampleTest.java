/** The example in README.md, call by call. */
public final class ExampleTest {
    private ExampleTest() {
    }

    public static void main(String[] args) {
        DiffusingRoutes x = new DiffusingRoutes(3);
        Check.due("connect(0, 1, 2)", 1, x.connect(0, 1, 2));
        Check.due("connect(1, 2, 3)", 2, x.connect(1, 2, 3));
        Check.due("run(200)", 12, x.run(200));
        Check.due("distance(2, 0)", 5, x.distance(2, 0));
        Check.due("next(2, 0)", 1, x.next(2, 0));
        Check.due("hops(2, 0)", 2, x.hops(2, 0));
        Check.due("cut(0, 1)", 0, x.cut(0, 1));
        Check.due("state(1, 0)", 1, x.state(1, 0));
        Check.due("waits(1, 2, 0)", true, x.waits(1, 2, 0));
        Check.due("message(1, 2, 0, 0)", 1, x.message(1, 2, 0, 0));
        Check.due("deliver(1, 2)", 2, x.deliver(1, 2));
        Check.due("state(2, 0)", 3, x.state(2, 0));
        Check.due("run(200)", 4, x.run(200));
        Check.due("total(4)", 0, x.total(4));
        Check.due("distance(2, 0)", 10000, x.distance(2, 0));
        Check.due("cut(0, 1)", Check.NONE, x.cut(0, 1));
        Check.finish();
    }
}
