/** Promises 4 (deliver), 5 (run), 13 (flight), 14 (message) and 16 (total), but for FULL. */
public final class MessageTest {
    private static final int[][] NO_LINK = {{0, 2}, {1, 1}, {-1, 0}, {0, -1}, {3, 0}, {0, 3},
        {Integer.MIN_VALUE, 0}, {0, Integer.MAX_VALUE}};

    private MessageTest() {
    }

    public static void main(String[] args) {
        deliverTakesTheFirst();
        deliverAnswersTheKind();
        deliverFromAnEmptyLink();
        deliverWithoutLink();
        runTakesWhatWasSentFirst();
        runOfNothing();
        runStopsAtItsNumber();
        runStopsWhenThereIsNone();
        runRefusesWrongNumbers();
        flightCountsOneWay();
        flightWithoutLink();
        messageTellsItsParts();
        messageWithoutLink();
        messageBeforeTheFirstAndAfterTheLast();
        messageHasThreeParts();
        totalCountsWhatWasSent();
        totalCountsWhatIs();
        totalOfNothingElse();
        Check.finish();
    }

    /** 0 - 1 - 2, where 0 and 1 told each other first, then 1 and 2; nothing came yet. */
    private static DiffusingRoutes untoldLine() {
        DiffusingRoutes x = new DiffusingRoutes(3);
        x.connect(0, 1, 2);
        x.connect(1, 2, 3);
        return x;
    }

    private static void deliverTakesTheFirst() {
        DiffusingRoutes x = untoldLine();
        x.deliver(0, 1);
        Check.due("the second one", 2, x.flight(1, 2));
        Check.due("the first one", 1, x.deliver(1, 2));
        Check.due("1 is known", 3, x.distance(2, 1));
        Check.due("0 is not yet", Check.FAR, x.distance(2, 0));
        Check.due("the second one", 1, x.deliver(1, 2));
        Check.due("0 is known", 5, x.distance(2, 0));
        Check.due("all came", 0, x.flight(1, 2));
    }

    private static void deliverAnswersTheKind() {
        DiffusingRoutes x = untoldLine();
        Check.due("an UPDATE", 1, x.deliver(0, 1));
        x.run(200);
        x.cut(0, 1);
        Check.due("a QUERY", 2, x.deliver(1, 2));
        Check.due("a QUERY back", 2, x.deliver(2, 1));
        Check.due("a REPLY", 3, x.deliver(1, 2));
    }

    private static void deliverFromAnEmptyLink() {
        DiffusingRoutes x = untoldLine();
        x.deliver(0, 1);
        Check.due("none on it", 0, x.deliver(0, 1));
        Check.due("those on others stay", 5, x.total(3));
        Check.due("none on any", 0, Networks.line(3).deliver(1, 0));
    }

    private static void deliverWithoutLink() {
        DiffusingRoutes x = untoldLine();
        for (int[] row : NO_LINK) {
            Check.due("no link", Check.NONE, x.deliver(row[0], row[1]));
        }
        Check.due("nothing came", 4, x.total(3));
        x.cut(0, 1);
        Check.due("no link any more", Check.NONE, x.deliver(0, 1));
    }

    private static void runTakesWhatWasSentFirst() {
        DiffusingRoutes x = untoldLine();
        Check.due("one", 1, x.run(1));
        Check.due("from 0 to 1", 2, x.distance(1, 0));
        Check.due("not from 1 to 0", Check.FAR, x.distance(0, 1));
        Check.due("two", 2, x.run(2));
        Check.due("from 1 to 0", 2, x.distance(0, 1));
        Check.due("from 1 to 2", 3, x.distance(2, 1));
        Check.due("not from 2 to 1", Check.FAR, x.distance(1, 2));
        x.deliver(1, 0);
        Check.due("one more", 1, x.run(1));
        Check.due("from 2 to 1", 3, x.distance(1, 2));
    }

    private static void runOfNothing() {
        DiffusingRoutes x = untoldLine();
        Check.due("none", 0, x.run(0));
        Check.due("all wait", 4, x.total(3));
    }

    /** Six routers, each linked with each, with more than 200 messages to come one by one. */
    private static DiffusingRoutes mesh() {
        DiffusingRoutes x = new DiffusingRoutes(6);
        for (int a = 0; a < 5; a++) {
            for (int b = a + 1; b < 6; b++) {
                x.connect(a, b, 100 - 10 * a - b);
                x.run(4);
            }
        }
        return x;
    }

    private static void runStopsAtItsNumber() {
        DiffusingRoutes x = mesh();
        int came = x.total(0) - x.total(3);
        Check.due("200 of more", 200, x.run(200));
        Check.due("200 more came", came + 200, x.total(0) - x.total(3));
        Check.due("there are more", true, x.total(3) > 0);
        DiffusingRoutes y = mesh();
        Check.due("199 of more", 199, y.run(199));
        Check.due("one of more", 1, y.run(1));
        Check.due("all the same", x.total(3), y.total(3));
    }

    private static void runStopsWhenThereIsNone() {
        DiffusingRoutes x = untoldLine();
        int came = x.run(3) + x.run(200);
        Check.due("all that were sent", x.total(0), came);
        Check.due("none is left", 0, x.total(3));
        Check.due("none comes", 0, x.run(200));
        Check.due("none comes", 0, x.run(1));
        Check.due("without links", 0, new DiffusingRoutes(2).run(200));
    }

    private static void runRefusesWrongNumbers() {
        DiffusingRoutes x = untoldLine();
        for (int n : new int[] {-1, 201, Integer.MIN_VALUE, Integer.MAX_VALUE}) {
            Check.due("run " + n, Check.NONE, x.run(n));
        }
        Check.due("nothing came", 4, x.total(3));
        Check.due("run -1 without links", Check.NONE, new DiffusingRoutes(2).run(-1));
        Check.due("run 201 without links", Check.NONE, new DiffusingRoutes(2).run(201));
    }

    private static void flightCountsOneWay() {
        DiffusingRoutes x = untoldLine();
        Check.due("one there", 1, x.flight(1, 0));
        x.deliver(0, 1);
        Check.due("none there", 0, x.flight(0, 1));
        Check.due("two back", 2, x.flight(1, 0));
    }

    private static void flightWithoutLink() {
        DiffusingRoutes x = untoldLine();
        for (int[] row : NO_LINK) {
            Check.due("no link", Check.NONE, x.flight(row[0], row[1]));
        }
        x.cut(0, 1);
        Check.due("no link any more", Check.NONE, x.flight(0, 1));
        x.connect(0, 1, 1);
        Check.due("a link again, with what is told anew", 1, x.flight(0, 1));
    }

    private static void messageTellsItsParts() {
        DiffusingRoutes x = untoldLine();
        x.deliver(0, 1);
        Check.message("first", x, 1, 2, 0, Check.UPDATE, 1, 0);
        Check.message("second", x, 1, 2, 1, Check.UPDATE, 0, 2);
        x.run(200);
        x.connect(1, 2, 100);
        x.cut(0, 1);
        Check.message("far", x, 1, 2, x.flight(1, 2) - 1, Check.QUERY, 0, Check.FAR);
    }

    private static void messageWithoutLink() {
        DiffusingRoutes x = untoldLine();
        for (int[] row : NO_LINK) {
            Check.message("no link", x, row[0], row[1], 0, Check.NONE, Check.NONE, Check.NONE);
        }
        x.cut(0, 1);
        Check.message("no link any more", x, 0, 1, 0, Check.NONE, Check.NONE, Check.NONE);
    }

    private static void messageBeforeTheFirstAndAfterTheLast() {
        DiffusingRoutes x = untoldLine();
        x.deliver(0, 1);
        Check.message("the first one", x, 1, 2, 0, Check.UPDATE, 1, 0);
        Check.message("the last one", x, 1, 2, 1, Check.UPDATE, 0, 2);
        for (int k : new int[] {-1, 2, 3, Integer.MIN_VALUE, Integer.MAX_VALUE}) {
            Check.message("no message", x, 1, 2, k, Check.NONE, Check.NONE, Check.NONE);
        }
        Check.message("an empty link", x, 0, 1, 0, Check.NONE, Check.NONE, Check.NONE);
    }

    private static void messageHasThreeParts() {
        DiffusingRoutes x = untoldLine();
        for (int what : new int[] {-1, 3, Integer.MIN_VALUE, Integer.MAX_VALUE}) {
            Check.due("no part " + what, Check.NONE, x.message(0, 1, 0, what));
        }
    }

    private static void totalCountsWhatWasSent() {
        DiffusingRoutes x = untoldLine();
        Check.due("UPDATEs", 4, x.total(0));
        x.deliver(0, 1);
        Check.due("UPDATEs, with what came", 6, x.total(0));
        x.cut(1, 2);
        Check.due("UPDATEs, with what is lost", 6, x.total(0));
        DiffusingRoutes y = Networks.line(2, 3);
        int updates = y.total(0);
        y.cut(0, 1);
        y.run(200);
        Check.due("QUERYs of 1 and 2", 2, y.total(1));
        Check.due("their REPLYs", 2, y.total(2));
        Check.due("the UPDATE of 1 at its end", updates + 1, y.total(0));
    }

    private static void totalCountsWhatIs() {
        DiffusingRoutes x = untoldLine();
        Check.due("messages on links", 4, x.total(3));
        Check.due("no busy routes", 0, x.total(4));
        Check.due("links", 2, x.total(5));
        x.run(200);
        Check.due("no messages on links", 0, x.total(3));
        x.cut(0, 1);
        Check.due("one busy route", 1, x.total(4));
        x.deliver(1, 2);
        Check.due("two busy routes", 2, x.total(4));
        Check.due("one link", 1, x.total(5));
    }

    private static void totalOfNothingElse() {
        DiffusingRoutes x = untoldLine();
        for (int what : new int[] {-1, 6, Integer.MIN_VALUE, Integer.MAX_VALUE}) {
            Check.due("total " + what, Check.NONE, x.total(what));
        }
    }
}
