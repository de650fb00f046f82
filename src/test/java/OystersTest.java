/** Promises 9 and 19: oysters, and whether they are closed. */
public final class OystersTest {
    public static void main(String[] args) {
        wrongOysters();
        closing();
        longAgo();
        Check.end();
    }

    private static void closed(String name, Saltwedge x, int oysters, boolean want) {
        Check.due(name, want ? 1 : 0, () -> x.isClosed(oysters) ? 1 : 0);
    }

    private static void wrongOysters() {
        Saltwedge x = new Saltwedge();
        Check.index("without sections", () -> x.oysters(0, 0, 1));
        x.section(1, 0, 0, 0);
        Check.index("oysters at -1", () -> x.oysters(-1, 0, 1));
        Check.index("oysters at 1, all wrong", () -> x.oysters(1, 31, 25));
        Check.argument("oysters(0, -1, 1)", () -> x.oysters(0, -1, 1));
        Check.argument("oysters(0, 31, 1)", () -> x.oysters(0, 31, 1));
        Check.argument("oysters(0, 0, 0)", () -> x.oysters(0, 0, 0));
        Check.argument("oysters(0, 0, 25)", () -> x.oysters(0, 0, 25));
        for (int i = 0; i < 6; i++) {
            final int number = i;
            Check.due("oysters " + i, number, () -> x.oysters(0, 30, 24));
            closed("no hour went by", x, i, false);
        }
        Check.state("seventh oysters", () -> x.oysters(0, 0, 1));
        Check.argument("seventh oysters that are wrong", () -> x.oysters(0, 0, 0));
        Check.index("seventh oysters nowhere", () -> x.oysters(1, 0, 1));
        Check.index("isClosed(6)", () -> x.isClosed(6) ? 1 : 0);
        Check.index("isClosed(-1)", () -> x.isClosed(-1) ? 1 : 0);
    }

    private static void closing() {
        Saltwedge x = new Saltwedge();
        x.section(1, 0, 0, 0);
        x.barrier(0, 0);
        // no water in the hours 0 and 1: 0; the sea in the hours 2 on: 30
        x.pass(2);
        x.barrier(Saltwedge.NONE, 0);
        x.pass(1);
        x.oysters(0, 30, 1);
        x.oysters(0, 30, 2);
        x.oysters(0, 1, 3);
        x.oysters(0, 0, 24);
        closed("the last hour was salty", x, 0, false);
        closed("the one ahead of it was not", x, 1, true);
        closed("three hours", x, 2, true);
        closed("nothing is below 0", x, 3, false);
        x.pass(1);
        closed("two salty hours", x, 1, false);
        closed("two of three", x, 2, true);
        x.pass(1);
        closed("three of three", x, 2, false);
        x.oysters(0, 30, 4);
        closed("of four hours", x, 4, true);
        Saltwedge y = new Saltwedge();
        y.section(8, 20, 0, 0);
        y.section(8, 0, 0, 0);
        y.pass(1);
        Check.due("the salinity of LOW", 28, () -> y.ofSection(0, 8));
        y.oysters(0, 28, 1);
        y.oysters(0, 29, 1);
        y.oysters(1, 30, 1);
        closed("28 is not below 28", y, 0, false);
        closed("28 is below 29", y, 1, true);
        closed("another section", y, 2, false);
    }

    private static void longAgo() {
        Saltwedge x = new Saltwedge();
        x.section(1, 0, 0, 0);
        x.barrier(0, 0);
        x.pass(1);
        x.barrier(Saltwedge.NONE, 0);
        x.pass(23);
        x.oysters(0, 30, 24);
        x.oysters(0, 30, 23);
        closed("24 hours ago", x, 0, true);
        closed("not among 23", x, 1, false);
        x.pass(1);
        closed("25 hours ago", x, 0, false);
        Saltwedge y = new Saltwedge();
        y.section(1, 0, 0, 0);
        y.pass(3);
        y.oysters(0, 30, 24);
        closed("of fewer hours than 24", y, 0, false);
    }
}
