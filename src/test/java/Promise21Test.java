public final class Promise21Test {
    private static final int NONE = Saltwedge.NONE;

    public static void main(String[] args) {
        Check.under("Promise 21: closure");
        Check.sentence("Tells of a CLOSURE.", Promise21Test::tells);
        Check.sentence("`what`: 0 its first hour,", Promise21Test::firstHour);
        Check.sentence("1 its last hour so far,", Promise21Test::lastHour);
        Check.sentence("2 whether it was RIGHT, so far, 1 or 0", Promise21Test::right);
        Check.sentence("Throws `IndexOutOfBoundsException` as told", Promise21Test::noSuch);
        Check.sentence("Throws `IllegalArgumentException` if what is out of range", Promise21Test::outOfRange);
        Check.end();
    }

    /** Closed from the hour 2 to 5, and from 8 on: RIGHT from 3 on, and not yet. */
    private static Trial two() {
        Trial x = new Trial().tell("surge", 3, 5, 20).tell("surge", 12, 12, 20).tell("barrier", 60, 1).tell("pass", 8);
        return x.tell("barrier", 60, 4).tell("pass", 2).due(2, "closures");
    }

    private static void tells() {
        two().row("closure", 0, 2, 5, 1).row("closure", 1, 8, 9, 0).row("closure", 0, 2, 5, 1);
    }

    private static void firstHour() {
        new Trial().tell("barrier", 49, 0).tell("pass", 3).due(0, "closure", 0, 0);
        new Trial().hours(999).tell("barrier", 49, 0).tell("pass", 1).row("closure", 0, 999, 999, 1);
        two().due(2, "closure", 0, 0).due(8, "closure", 1, 0).tell("pass", 9).due(2, "closure", 0, 0)
                .due(8, "closure", 1, 0);
    }

    private static void lastHour() {
        Trial x = new Trial().tell("barrier", 49, 0);
        for (int hour = 0; hour < 5; hour++) {
            x.tell("pass", 1).due(hour, "closure", 0, 1);
        }
        x.tell("barrier", NONE, 0).due(4, "closure", 0, 1).tell("pass", 5).due(4, "closure", 0, 1);
        two().due(5, "closure", 0, 1).due(9, "closure", 1, 1).tell("pass", 9).due(12, "closure", 1, 1);
    }

    private static void right() {
        two().due(1, "closure", 0, 2).due(0, "closure", 1, 2).tell("pass", 2).due(0, "closure", 1, 2).tell("pass", 1)
                .due(1, "closure", 1, 2).tell("pass", 9).due(1, "closure", 1, 2);
        // as high as the mark is not above it
        Trial x = new Trial().tell("surge", 1, 1, 11).tell("barrier", 60, 1).tell("pass", 1).row("closure", 0, 0, 0, 0);
        x.tell("surge", 1, 1, -1).tell("surge", 2, 2, 11).tell("pass", 1).row("closure", 0, 0, 1, 0);
        x.tell("pass", 1).row("closure", 0, 0, 2, 1);
    }

    private static void noSuch() {
        new Trial().index("closure", 0, 0).index("closure", 0, 3).tell("barrier", 50, 0).tell("pass", 9)
                .index("closure", 0, 0);
        Trial.numbers(Promise21Test::two, 0, 2, "closure", 0, 0);
        two().index("closure", 2, 3).index("closure", -1, -1);
        // told, but no hour went by with it
        new Trial().tell("barrier", 0, 0).index("closure", 0, 0).tell("pass", 1).due(0, "closure", 0, 0);
    }

    private static void outOfRange() {
        Trial.range(Promise21Test::two, 1, 0, 2, "closure", 0, 1);
        Trial.range(Promise21Test::two, 1, 0, 2, "closure", 1, 1);
    }
}
