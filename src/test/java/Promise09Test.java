import java.util.function.Supplier;

public final class Promise09Test {
    private static final Supplier<Trial> ONE = () -> new Trial().tell("section", 1, 0, 0, 0);

    public static void main(String[] args) {
        Check.under("Promise 9: oysters");
        Check.sentence("Tells OYSTERS.", Promise09Test::tells);
        Check.sentence("`grain`: 0 to 30", Promise09Test::grain);
        Check.sentence("`hours`: 1 to 24", Promise09Test::hours);
        Check.sentence("Returns their number.", Promise09Test::number);
        Check.sentence("Throws `IndexOutOfBoundsException` as told", Promise09Test::noSuch);
        Check.sentence("Throws `IllegalArgumentException` if grain or hours is out of range",
                Promise09Test::outOfRange);
        Check.sentence("Throws `IllegalStateException` if there are 6", Promise09Test::mostOysters);
        Check.end();
    }

    private static void tells() {
        Trial x = SectionsTest.mixed().tell("oysters", 0, 29, 1).due(1, "isClosed", 0).tell("oysters", 0, 28, 1);
        x.due(1, "isClosed", 0).due(0, "isClosed", 1).index("isClosed", 2);
    }

    static void grain() {
        Trial.range(ONE, 1, 0, 30, "oysters", 0, 7, 7);
        SectionsTest.mixed().tell("oysters", 0, 0, 1).due(0, "isClosed", 0);
        SectionsTest.mixed().tell("oysters", 0, 30, 1).due(1, "isClosed", 0);
    }

    static void hours() {
        Trial.range(ONE, 2, 1, 24, "oysters", 0, 7, 7);
        // fresh in the hour 0 alone
        Trial x = new Trial().tell("barrier", 0, 0).tell("section", 1, 0, 0, 0).tell("oysters", 0, 30, 1);
        x.tell("oysters", 0, 30, 24).due(0, "isClosed", 0).due(0, "isClosed", 1).tell("pass", 1);
        x.due(1, "isClosed", 0).due(1, "isClosed", 1).tell("barrier", -1, 0).tell("pass", 1).due(0, "isClosed", 0);
        x.tell("pass", 22).due(1, "isClosed", 1).tell("pass", 1).due(0, "isClosed", 1);
    }

    private static void number() {
        Trial x = ONE.get().due(0, "oysters", 0, 0, 1).index("oysters", 1, 0, 1).argument("oysters", 0, 31, 1);
        x.due(1, "oysters", 0, 30, 24).tell("pass", 5).due(2, "oysters", 0, 0, 1);
    }

    private static void noSuch() {
        Trial.numbers(() -> new Trial().tell("section", 1, 0, 0, 0).tell("section", 1, 0, 0, 0), 0, 2,
                "oysters", 0, 0, 1);
        new Trial().index("oysters", 0, 0, 1).index("isClosed", 0);
        ONE.get().index("oysters", 1, 31, 25).index("oysters", -1, 0, 1).index("isClosed", 0);
    }

    private static void outOfRange() {
        int[][] wrong = {{0, -1, 1}, {0, 31, 1}, {0, 0, 0}, {0, 0, 25}, {0, 0, -1}, {0, Integer.MAX_VALUE, 1}};
        for (int[] w : wrong) {
            ONE.get().argument("oysters", w).index("isClosed", 0).due(0, "oysters", 0, 0, 1);
        }
    }

    static void mostOysters() {
        Trial x = SectionsTest.mixed();
        for (int number = 0; number < 6; number++) {
            x.due(number, "oysters", number % 2, 29, 1);
        }
        x.state("oysters", 0, 0, 1).state("oysters", 1, 30, 24).index("isClosed", 6);
        for (int number = 0; number < 6; number++) {
            x.due(number % 2 == 0 ? 1 : 0, "isClosed", number);
        }
        x.tell("pass", 1).state("oysters", 0, 0, 1);
    }
}
