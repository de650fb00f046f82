public final class Promise17Test {
    private static final int NONE = Saltwedge.NONE;

    public static void main(String[] args) {
        Check.under("Promise 17: ofSectionAnew");
        Check.sentence("Returns the same, by letting all hours go by once more from the beginning,",
                Promise17Test::theSame);
        Check.sentence("with all that was told ahead of each.", Promise17Test::aheadOfEach);
        Check.sentence("`what`: 0 to 9", Promise17Test::what);
        Check.sentence("Throws `IndexOutOfBoundsException` as told", Promise17Test::noSuch);
        Check.sentence("Throws `IllegalArgumentException` if what is out of range", Promise17Test::outOfRange);
        Check.end();
    }

    private static Trial same(Trial x, int sections) {
        for (int k = 0; k < sections; k++) {
            for (int what = 0; what < 10; what++) {
                x.due(Long.parseLong(x.ask("ofSection", k, what)), "ofSectionAnew", k, what);
            }
        }
        return x;
    }

    private static void theSame() {
        // no hour went by, then one, then many, and all that can
        Trial x = new Trial().tell("section", 8, 20, 0, 24).tell("section", 8, 0, 0, 27);
        x.row("ofSectionAnew", 0, 20, 0, 0, 0, 0, 24, 5, 0, 0, 0)
                .row("ofSectionAnew", 1, 0, 0, 0, 0, 0, 27, 3, 0, 0, 0);
        x.tell("pass", 1).row("ofSectionAnew", 0, 20, 150, 130, 3750, 6, 18, 20, 7, 28, 50);
        x.row("ofSectionAnew", 1, 0, 0, 50, 1500, 6, 21, 8, 0, 30, 50);
        same(x.tell("pass", 30), 2);
        same(ExceptionsTest.full(), 8).hours(995);
        same(ExceptionsTest.full().hours(995), 8);
        // twice the same, and nothing else is changed by it
        Trial y = new Trial().tell("section", 1, 0, 0, 9).tell("surge", 0, 3, 30).tell("permit", 0, 9)
                .tell("barrier", 60, 0);
        y.tell("intake", 0, 5, 30, 9, 5).tell("oysters", 0, 30, 24).tell("pass", 2).tell("dredge", 0, 4, NONE);
        y.due(5, "ofSectionAnew", 0, 5).due(5, "ofSectionAnew", 0, 5).due(2, "now").due(5, "ofSection", 0, 5);
        y.due(5, "permit", 0, 5).due(4, "sum", 9).due(1, "closures").row("closure", 0, 0, 1, 1).due(1, "isClosed", 0);
        y.row("ofIntake", 0, 0, 0, 10, 1, 2).seas(0, 80, 80, 80, 80, 50);
    }

    private static void aheadOfEach() {
        // each of these is told between hours; without it, or told from the beginning on, other numbers come
        same(still().tell("pass", 2).tell("turn", 2, 1, 40, 0).tell("pass", 2), 1);
        same(still().tell("pass", 2).tell("mean", 90).tell("pass", 2), 1).due(76, "ofSectionAnew", 0, 2);
        same(still().tell("pass", 2).tell("surge", 2, 3, 40).tell("pass", 3), 1);
        same(still().tell("pass", 2).tell("river", 7, 9).tell("pass", 2).tell("river", 0, 0).tell("pass", 1), 1);
        same(still().tell("barrier", 0, 0).tell("mean", 90).tell("pass", 2).tell("barrier", NONE, 0).tell("pass", 1), 1)
                .due(45, "ofSectionAnew", 0, 2);
        // asked again and again, each time from a new beginning on: without barrier and river, as it was at first
        same(still().tell("pass", 2).tell("barrier", 0, 0).tell("pass", 1), 1).due(37, "ofSectionAnew", 0, 2);
        same(still().tell("pass", 2).tell("river", 7, 9).tell("pass", 1), 1).due(7, "ofSectionAnew", 0, 0);
        same(new Trial().tell("section", 1, 90, 0, 0).tell("barrier", 0, 0).tell("pass", 2)
                .tell("intake", 0, 7, 0, 50, 7).tell("pass", 2), 1).due(76, "ofSectionAnew", 0, 0);
        Trial muddy = new Trial().tell("section", 1, 0, 50, 0).tell("section", 1, 0, 0, 50).tell("pass", 2);
        muddy.tell("permit", 1, 30).tell("dredge", 1, 20, 0).tell("pass", 1).tell("permit", 1, 9)
                .tell("dredge", 1, 3, NONE);
        same(muddy, 2).due(27, "ofSectionAnew", 1, 5);
        // a permit that is told anew and again, and what was refused
        Trial again = new Trial().tell("section", 1, 0, 0, 50).tell("permit", 0, 5).state("dredge", 0, 6, NONE);
        again.tell("permit", 0, 7).tell("dredge", 0, 7, NONE).state("dredge", 0, 1, NONE).tell("permit", 0, 2);
        same(again.tell("dredge", 0, 1, NONE), 1).due(42, "ofSectionAnew", 0, 5);
        // a barrier that closes by a lead, of which another surge is told later
        Trial foretold = new Trial().tell("section", 1, 0, 0, 0).tell("surge", 3, 3, 40).tell("barrier", 60, 3);
        foretold.tell("pass", 2).due(0, "ofSectionAnew", 0, 2).tell("surge", 3, 3, -40).tell("pass", 1);
        same(foretold, 1).due(25, "ofSectionAnew", 0, 2);
        // as often as there are calls: all of them are kept
        Trial many = new Trial().tell("section", 1, 0, 0, 7);
        for (int i = 0; i < 507; i++) {
            many.tell("permit", 0, i);
        }
        many.tell("permit", 0, 5).tell("dredge", 0, 4, NONE).due(3, "ofSection", 0, 5).due(3, "ofSectionAnew", 0, 5);
        Trial rivers = new Trial().tell("section", 1, 0, 0, 0);
        for (int i = 0; i < 508; i++) {
            rivers.tell("river", 9, 2);
        }
        rivers.tell("river", 5, 8).tell("pass", 1).due(5, "ofSectionAnew", 0, 0);
    }

    /** One SECTION without WATER, into which the sea comes. */
    private static Trial still() {
        return new Trial().tell("section", 1, 0, 0, 0);
    }

    private static void what() {
        Trial.range(SectionsTest::mixed, 1, 0, 9, "ofSectionAnew", 0, 5);
        SectionsTest.mixed().row("ofSectionAnew", 0, 20, 150, 140, 4050, 0, 0, 20, 7, 28, 52);
    }

    private static void noSuch() {
        Trial.numbers(SectionsTest::mixed, 0, 2, "ofSectionAnew", 0, 0);
        new Trial().index("ofSectionAnew", 0, 0).index("ofSectionAnew", 0, 10).index("ofSectionAnew", -1, 0);
        SectionsTest.mixed().index("ofSectionAnew", 2, 10).index("ofSectionAnew", -1, -1);
    }

    private static void outOfRange() {
        for (int what : new int[] {-1, 10, Integer.MIN_VALUE, Integer.MAX_VALUE}) {
            SectionsTest.mixed().argument("ofSectionAnew", 0, what).argument("ofSectionAnew", 1, what);
        }
    }
}
