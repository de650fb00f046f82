public final class Promise19Test {
    private static final int NONE = Saltwedge.NONE;

    public static void main(String[] args) {
        Check.under("Promise 19: isClosed");
        Check.sentence("Returns whether OYSTERS are closed.", Promise19Test::closed);
        Check.sentence("Throws `IndexOutOfBoundsException` as told", Promise19Test::noSuch);
        Check.end();
    }

    private static void closed() {
        // fresh in the hour 0, of a salinity of 30 in those behind it
        Trial x = new Trial().tell("barrier", 0, 0).tell("section", 1, 0, 0, 0).tell("oysters", 0, 1, 2);
        x.tell("oysters", 0, 0, 24).due(0, "isClosed", 0).tell("pass", 1).due(1, "isClosed", 0).due(0, "isClosed", 1);
        x.tell("barrier", NONE, 0).tell("pass", 1).due(1, "isClosed", 0).tell("pass", 1).due(0, "isClosed", 0);
        // 88 WATER with 240 of SALT in LOW of 0, 42 with 60 in that of 1
        Trial y = new Trial().tell("section", 1, 0, 100, 0).tell("section", 1, 0, 20, 0).tell("oysters", 0, 1, 2);
        y.tell("mean", 100).tell("surge", 0, 0, 20).tell("pass", 1).row("ofSection", 0, 0, 0, 88, 240);
        y.due(0, "isClosed", 0).tell("oysters", 0, 3, 1).due(1, "isClosed", 1).tell("oysters", 1, 2, 1);
        y.due(1, "isClosed", 2).tell("oysters", 1, 1, 1).due(1, "ofSection", 1, 8).due(0, "isClosed", 3);
        // asking changes nothing
        y.due(1, "isClosed", 1).due(1, "isClosed", 1).due(1, "now");
    }

    private static void noSuch() {
        Trial.numbers(() -> SectionsTest.mixed().tell("oysters", 0, 1, 1).tell("oysters", 1, 1, 1), 0, 2,
                "isClosed", 0);
        Trial.numbers(ExceptionsTest::full, 0, 6, "isClosed", 0);
        new Trial().index("isClosed", 0).index("isClosed", -1);
        SectionsTest.mixed().index("isClosed", 0).index("isClosed", 1);
    }
}
