public final class Promise16Test {
    public static void main(String[] args) {
        Check.under("Promise 16: ofSection");
        Check.sentence("Tells of a SECTION.", Promise16Test::tells);
        Check.sentence("`what`: 0 the WATER of UP, 1 its SALT, 2 the WATER of LOW, 3 its SALT, 4 the CLOUD, 5 the MUD,"
                + " 6 the LEVEL, 7 the salinity of UP, 8 that of LOW,", Promise16Test::what);
        Check.sentence("9 the RUN of the hour that went by last, 0 if none did", Promise16Test::run);
        Check.sentence("Throws `IndexOutOfBoundsException` as told", Promise16Test::noSuch);
        Check.sentence("Throws `IllegalArgumentException` if what is out of range", Promise16Test::outOfRange);
        Check.end();
    }

    private static void tells() {
        Trial x = new Trial().tell("section", 2, 10, 20, 30).tell("section", 4, 50, 60, 70);
        x.row("ofSection", 0, 10, 0, 20, 0, 0, 30, 30, 0, 0, 0).row("ofSection", 1, 50, 0, 60, 0, 0, 70, 44, 0, 0, 0);
        // between hours dredging alone changes it
        x.tell("mean", 90).tell("river", 9, 9).tell("intake", 0, 9, 9, 9, 9).tell("permit", 1, 9);
        x.row("ofSection", 0, 10, 0, 20, 0, 0, 30, 30, 0, 0, 0).tell("dredge", 1, 9, 0);
        x.row("ofSection", 0, 10, 0, 20, 0, 9, 30, 30, 0, 0, 0).row("ofSection", 1, 50, 0, 60, 0, 0, 61, 42, 0, 0, 0);
    }

    private static void what() {
        // no two of the SECTION 0 are the same
        Trial x = new Trial().tell("section", 8, 20, 0, 24).tell("section", 8, 0, 0, 27).tell("pass", 1);
        // bed 3, LEVEL 5, d 45: 180 come with 5400; LEVEL 28 to 3: 50 flow with 1500; m is 5, s is 3900 * 5 / 130
        x.row("ofSection", 0, 20, 150, 130, 3750, 6, 18, 20, 7, 28, 50);
        x.row("ofSection", 1, 0, 0, 50, 1500, 6, 21, 8, 0, 30, 50);
    }

    private static void run() {
        Trial x = new Trial().tell("barrier", 0, 0).tell("section", 4, 0, 100, 0).tell("section", 4, 0, 52, 0);
        x.due(0, "ofSection", 0, 9).due(0, "ofSection", 1, 9).tell("pass", 1).due(12, "ofSection", 0, 9);
        x.due(12, "ofSection", 1, 9).tell("permit", 0, 9).due(12, "ofSection", 0, 9).tell("pass", 1)
                .due(6, "ofSection", 0, 9);
        x.tell("pass", 5).due(0, "ofSection", 0, 9).due(0, "ofSection", 1, 9);
        // one SECTION has no neighbour, and no RUN
        new Trial().tell("section", 1, 0, 0, 0).tell("river", 500, 0).tell("pass", 3).due(0, "ofSection", 0, 9);
    }

    private static void noSuch() {
        Trial.numbers(SectionsTest::mixed, 0, 2, "ofSection", 0, 0);
        Trial.numbers(ExceptionsTest::full, 0, 8, "ofSection", 0, 9);
        new Trial().index("ofSection", 0, 0).index("ofSection", 0, 10).index("ofSection", -1, 0);
        SectionsTest.mixed().index("ofSection", 2, 10).index("ofSection", -1, -1);
    }

    private static void outOfRange() {
        Trial.range(SectionsTest::mixed, 1, 0, 9, "ofSection", 0, 5);
        Trial.range(SectionsTest::mixed, 1, 0, 9, "ofSection", 1, 5);
    }
}
