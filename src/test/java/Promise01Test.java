public final class Promise01Test {
    public static void main(String[] args) {
        Check.under("Promise 1: A new object");
        Check.sentence("`Saltwedge()`: Begins with the hour 0,", Promise01Test::hour);
        Check.sentence("without SECTIONS", Promise01Test::sections);
        Check.sentence("and TURNS.", Promise01Test::turns);
        Check.end();
    }

    private static void hour() {
        new Trial().due(0, "now");
        // the hour 0 goes by first: surges may be told for it, and a closure begins with it
        new Trial().due(1, "surge", 0, 0, 5).tell("barrier", 54, 0).due(1, "pass", 1).row("closure", 0, 0, 0, 1);
        // no hour went by yet
        Trial x = new Trial().due(0, "closures").tell("section", 1, 9, 9, 9).row("ofSection", 0, 9, 0, 9, 0, 0, 9);
        x.due(0, "ofSection", 0, 9).tell("oysters", 0, 30, 24).due(0, "isClosed", 0);
        for (int what = 0; what < 10; what++) {
            new Trial().due(0, "sum", what);
        }
        new Trial().due(50, "mean", 50).due(0, "river", 0, 0).due(Saltwedge.NONE, "barrier", 0, 0);
        new Trial().index("ofIntake", 0, 0).index("isClosed", 0).index("closure", 0, 0);
        // what another object was told is not told to this one
        Trial other = ExceptionsTest.full();
        new Trial().due(0, "now").seas(0, 50, 50, 50, 50, 50).due(0, "sum", 0).due(0, "section", 1, 0, 0, 0);
        other.due(5, "now");
    }

    private static void sections() {
        Trial x = new Trial().index("ofSection", 0, 0).index("ofSectionAnew", 0, 0).index("permit", 0, 0);
        x.index("whyNot", 0, 1).index("dredge", 0, 1, -1).index("intake", 0, 1, 0, 1, 0).index("oysters", 0, 0, 1);
        x.state("window", 1, 1).due(0, "intrusion", 1).due(0, "section", 1, 0, 0, 0).due(1, "section", 1, 0, 0, 0);
        new Trial().tell("river", 9, 9).tell("pass", 3).due(0, "sum", 0).due(0, "sum", 2).due(0, "sum", 7);
    }

    private static void turns() {
        Trial x = new Trial();
        for (int hour = 0; hour <= 120; hour++) {
            x.due(50, "sea", hour);
        }
        x.due(50, "sea", 2000).due(0, "turn", 2, 1, 0, 0);
    }
}
