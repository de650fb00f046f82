import java.util.function.Supplier;

public final class Promise08Test {
    private static final Supplier<Trial> ONE = () -> new Trial().tell("section", 1, 9, 0, 0);

    public static void main(String[] args) {
        Check.under("Promise 8: intake");
        Check.sentence("Tells an INTAKE.", Promise08Test::tells);
        Check.sentence("`rate`: 1 to 500", Promise08Test::rate);
        Check.sentence("`grain`: 0 to 30", Promise08Test::grain);
        Check.sentence("`room`: 1 to 10000", Promise08Test::room);
        Check.sentence("`use`: 0 to 500", Promise08Test::use);
        Check.sentence("Returns its number.", Promise08Test::number);
        Check.sentence("Throws `IndexOutOfBoundsException` as told", Promise08Test::noSuch);
        Check.sentence("Throws `IllegalArgumentException` if rate, grain, room or use is out of range",
                Promise08Test::outOfRange);
        Check.sentence("Throws `IllegalStateException` if there are 6", Promise08Test::mostIntakes);
        Check.end();
    }

    private static void tells() {
        Trial x = Trial.fresh(9).tell("intake", 0, 4, 0, 9, 1).row("ofIntake", 0, 0, 0, 0, 0, 0).tell("pass", 1);
        x.row("ofIntake", 0, 3, 4, 0, 0, 0).tell("intake", 0, 2, 0, 9, 1).row("ofIntake", 1, 0, 0, 0, 0, 0);
        x.tell("pass", 1).row("ofIntake", 0, 6, 8, 0, 0, 0).row("ofIntake", 1, 0, 1, 0, 0, 0);
    }

    static void rate() {
        Trial.range(ONE, 1, 1, 500, "intake", 0, 7, 0, 7, 7);
        Trial.fresh(900).tell("intake", 0, 1, 0, 900, 0).tell("pass", 1).due(1, "ofIntake", 0, 1);
        Trial.fresh(900).tell("intake", 0, 500, 0, 900, 0).tell("pass", 1).due(500, "ofIntake", 0, 1);
    }

    static void grain() {
        Trial.range(ONE, 2, 0, 30, "intake", 0, 7, 0, 7, 7);
        // UP is of a salinity of 7
        SectionsTest.mixed().tell("barrier", 0, 0).tell("intake", 0, 1, 0, 9, 0).tell("pass", 1)
                .due(1, "ofIntake", 0, 3);
        SectionsTest.mixed().tell("barrier", 0, 0).tell("intake", 0, 1, 30, 9, 0).tell("pass", 1)
                .due(0, "ofIntake", 0, 3);
    }

    static void room() {
        Trial.range(ONE, 3, 1, 10000, "intake", 0, 7, 0, 7, 7);
        Trial.fresh(900).tell("intake", 0, 500, 0, 1, 0).tell("pass", 2).due(1, "ofIntake", 0, 0)
                .due(1, "ofIntake", 0, 1);
        Trial.fresh(10000).tell("river", 500, 0).tell("intake", 0, 500, 0, 10000, 0).hours(40)
                .due(10000, "ofIntake", 0, 0);
        Trial.fresh(10000).tell("river", 500, 0).tell("intake", 0, 400, 0, 9999, 0).hours(40)
                .due(9999, "ofIntake", 0, 0);
    }

    static void use() {
        Trial.range(ONE, 4, 0, 500, "intake", 0, 7, 0, 7, 7);
        Trial.fresh(900).tell("intake", 0, 500, 0, 900, 0).tell("pass", 1).due(500, "ofIntake", 0, 0)
                .due(0, "ofIntake", 0, 2);
        Trial.fresh(900).tell("intake", 0, 500, 0, 900, 500).tell("pass", 1).due(0, "ofIntake", 0, 0)
                .due(0, "ofIntake", 0, 2);
    }

    private static void number() {
        Trial x = ONE.get().due(0, "intake", 0, 1, 0, 1, 0).index("intake", 1, 1, 0, 1, 0)
                .argument("intake", 0, 0, 0, 1, 0);
        x.due(1, "intake", 0, 500, 30, 10000, 500).tell("pass", 5).due(2, "intake", 0, 1, 0, 1, 0);
    }

    private static void noSuch() {
        Trial.numbers(() -> new Trial().tell("section", 1, 0, 0, 0).tell("section", 1, 0, 0, 0), 0, 2,
                "intake", 0, 1, 0, 1, 0);
        new Trial().index("intake", 0, 1, 0, 1, 0).index("ofIntake", 0, 0);
        ONE.get().index("intake", 1, 0, 31, 0, 501).index("intake", -1, 1, 0, 1, 0).index("ofIntake", 0, 0);
    }

    private static void outOfRange() {
        int[][] wrong = {{0, 0, 0, 1, 0}, {0, 501, 0, 1, 0}, {0, 1, -1, 1, 0}, {0, 1, 31, 1, 0}, {0, 1, 0, 0, 0},
            {0, 1, 0, 10001, 0}, {0, 1, 0, 1, -1}, {0, 1, 0, 1, 501}};
        for (int[] w : wrong) {
            ONE.get().argument("intake", w).index("ofIntake", 0, 0).due(0, "intake", 0, 1, 0, 1, 0);
        }
    }

    static void mostIntakes() {
        Trial x = new Trial().tell("section", 1, 0, 0, 0).tell("section", 1, 0, 0, 0);
        for (int number = 0; number < 6; number++) {
            x.due(number, "intake", number % 2, 1, 0, 1, 0);
        }
        x.state("intake", 0, 1, 0, 1, 0).state("intake", 1, 500, 30, 10000, 500).index("ofIntake", 6, 0);
        x.tell("pass", 1).state("intake", 0, 1, 0, 1, 0).due(1, "ofIntake", 5, 4);
    }
}
