/** Promises 6, 20 and 21: the barrier (A), and its closures. */
public final class BarrierTest {
    private static final int NONE = Saltwedge.NONE;

    public static void main(String[] args) {
        telling();
        foretelling();
        rows();
        shutting();
        many();
        Check.end();
    }

    private static void row(String name, Saltwedge x, int closure, int... want) {
        for (int what = 0; what < 3; what++) {
            final int w = what;
            Check.due(name + ": closure(" + closure + ", " + what + ")", want[what], () -> x.closure(closure, w));
        }
    }

    private static void telling() {
        Saltwedge x = new Saltwedge();
        Check.argument("barrier(-2, 0)", () -> x.barrier(-2, 0));
        Check.argument("barrier(501, 0)", () -> x.barrier(501, 0));
        Check.argument("barrier(0, -1)", () -> x.barrier(0, -1));
        Check.argument("barrier(0, 13)", () -> x.barrier(0, 13));
        Check.argument("barrier(NONE, 13)", () -> x.barrier(NONE, 13));
        Check.argument("barrier(NONE, -1)", () -> x.barrier(NONE, -1));
        Check.due("barrier(500, 12)", NONE, () -> x.barrier(500, 12));
        Check.due("barrier(0, 0)", 500, () -> x.barrier(0, 0));
        Check.due("barrier(NONE, 12)", 0, () -> x.barrier(NONE, 12));
        Check.due("barrier(NONE, 0)", NONE, () -> x.barrier(NONE, 0));
        Check.due("closures()", 0, x::closures);
        x.pass(5);
        Check.due("none closes", 0, x::closures);
        Check.index("closure(0, 0)", () -> x.closure(0, 0));
        Check.index("closure(0, 3)", () -> x.closure(0, 3));
        x.barrier(50, 12);
        x.pass(1);
        Check.due("50 is not above 50", 0, x::closures);
        x.barrier(49, 0);
        x.pass(1);
        Check.due("50 is above 49", 1, x::closures);
        row("one hour", x, 0, 6, 6, 1);
        Check.index("closure(1, 0)", () -> x.closure(1, 0));
        Check.index("closure(-1, 3)", () -> x.closure(-1, 3));
        Check.argument("closure(0, 3)", () -> x.closure(0, 3));
        Check.argument("closure(0, -1)", () -> x.closure(0, -1));
    }

    private static void foretelling() {
        Saltwedge x = new Saltwedge();
        x.surge(10, 11, 40);
        x.barrier(80, 3);
        x.pass(7);
        Check.due("the surge is 4 hours off behind the hour 6", 0, x::closures);
        x.pass(1);
        row("3 hours off", x, 0, 7, 7, 0);
        x.pass(2);
        row("not right yet", x, 0, 7, 9, 0);
        x.pass(1);
        row("right", x, 0, 7, 10, 1);
        x.pass(4);
        row("over", x, 0, 7, 11, 1);
        Check.due("one closure", 1, x::closures);
        // what is foretold may be told otherwise ahead of its coming
        x.surge(18, 18, 40);
        x.pass(1);
        row("foretold", x, 1, 15, 15, 0);
        x.surge(18, 18, -40);
        x.pass(5);
        row("it did not come", x, 1, 15, 15, 0);
        row("the first one stays", x, 0, 7, 11, 1);
        Saltwedge y = new Saltwedge();
        y.barrier(60, 12);
        y.surge(12, 12, 11);
        y.pass(1);
        row("the longest lead", y, 0, 0, 0, 0);
        Saltwedge z = new Saltwedge();
        z.barrier(60, 12);
        z.surge(13, 13, 11);
        z.pass(1);
        Check.due("beyond the lead", 0, z::closures);
    }

    private static void rows() {
        Saltwedge x = new Saltwedge();
        x.barrier(10, 0);
        x.pass(2);
        x.barrier(NONE, 0);
        x.barrier(20, 5);
        x.pass(2);
        row("whatever mark was told between", x, 0, 0, 3, 1);
        x.barrier(NONE, 0);
        x.pass(1);
        x.barrier(20, 0);
        row("open again", x, 0, 0, 3, 1);
        x.pass(1);
        Check.due("two closures", 2, x::closures);
        row("the second", x, 1, 5, 5, 1);
        Saltwedge y = new Saltwedge();
        y.surge(4, 4, 30);
        y.barrier(60, 4);
        y.pass(2);
        row("not right by 60", y, 0, 0, 1, 0);
        y.barrier(50, 4);
        y.pass(1);
        row("50 is not above 50", y, 0, 0, 2, 0);
        y.barrier(40, 0);
        y.pass(1);
        row("right by the mark of then", y, 0, 0, 3, 1);
        y.barrier(79, 0);
        y.pass(2);
        row("and so it stays", y, 0, 0, 4, 1);
    }

    private static void shutting() {
        Saltwedge x = new Saltwedge();
        x.section(1, 0, 0, 0);
        x.barrier(49, 0);
        x.pass(1);
        Check.due("no sea comes in", 0, () -> x.ofSection(0, 2));
        Check.due("sum(0)", 0, () -> x.sum(0));
        x.barrier(50, 0);
        x.pass(1);
        Check.due("the sea comes in", 25, () -> x.ofSection(0, 2));
        Saltwedge y = new Saltwedge();
        y.section(1, 100, 0, 0);
        y.barrier(49, 0);
        y.river(9, 4);
        y.pass(1);
        Check.due("nothing leaves, but the river comes", 109, () -> y.ofSection(0, 0));
        Check.due("sum(1)", 0, () -> y.sum(1));
        y.barrier(NONE, 0);
        y.pass(1);
        // half of the silt is on the bed: (2 + 109 - 50) / 2 leave, 9 come
        Check.due("open", 109 - 30 + 9, () -> y.ofSection(0, 0));
        Check.due("sum(1), open", 30, () -> y.sum(1));
    }

    private static void many() {
        Saltwedge x = new Saltwedge();
        x.turn(2, 1, 50, 1);
        x.barrier(50, 0);
        for (int i = 0; i < 20; i++) {
            x.pass(48);
        }
        x.pass(40);
        Check.due("every other hour", 500, x::closures);
        row("the first", x, 0, 0, 0, 1);
        row("one of them", x, 77, 154, 154, 1);
        row("the last", x, 499, 998, 998, 1);
        Check.index("closure(500, 0)", () -> x.closure(500, 0));
        Saltwedge y = new Saltwedge();
        y.barrier(0, 12);
        for (int i = 0; i < 20; i++) {
            y.pass(48);
        }
        y.pass(40);
        row("one long closure", y, 0, 0, 999, 1);
        Check.due("just one", 1, y::closures);
    }
}
