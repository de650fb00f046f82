public final class Promise23Test {
    private static final int NONE = Saltwedge.NONE;

    public static void main(String[] args) {
        Check.under("Promise 23: window");
        Check.sentence("Finds a window for a keel: the first hour from NOW on,", Promise23Test::fromNowOn);
        Check.sentence("at most 100 later,", Promise23Test::atMostLater);
        Check.sentence("so that in it, and in each of the hours behind it that are asked with it,",
                Promise23Test::eachOfTheHours);
        Check.sentence("the SEA is at least as much above the bed of the SECTION 0, as it is now, as the keel.",
                Promise23Test::aboveTheBed);
        Check.sentence("`keel`: 1 to 200", Promise23Test::keel);
        Check.sentence("`hours`: 1 to 24, the first one with them", Promise23Test::hours);
        Check.sentence("Returns the hour; NONE if there is none.", Promise23Test::hourOrNone);
        Check.sentence("Throws `IllegalArgumentException` if keel or hours is out of range",
                Promise23Test::outOfRange);
        Check.sentence("Throws `IllegalStateException` if there are no SECTIONS", Promise23Test::noSections);
        Check.end();
    }

    /** A bed of 0 below a SEA of 50. */
    private static Trial flat() {
        return new Trial().tell("section", 1, 0, 0, 0);
    }

    private static void fromNowOn() {
        // NOW itself, the first of several, none that went by
        Trial x = flat().tell("surge", 0, 2, 10).tell("surge", 5, 6, 10).tell("surge", 9, 9, 10)
                .due(0, "window", 60, 1);
        x.due(0, "window", 60, 3).due(NONE, "window", 60, 4).tell("pass", 1).due(1, "window", 60, 2)
                .due(NONE, "window", 60, 3);
        x.tell("pass", 1).due(2, "window", 60, 1).due(5, "window", 60, 2).tell("pass", 1).due(5, "window", 60, 1);
        x.tell("pass", 3).due(6, "window", 60, 1).tell("pass", 1).due(9, "window", 60, 1).tell("pass", 3);
        x.due(NONE, "window", 60, 1).due(10, "window", 50, 24);
    }

    private static void atMostLater() {
        flat().tell("surge", 100, 100, 10).due(100, "window", 60, 1);
        flat().tell("surge", 101, 101, 10).due(NONE, "window", 60, 1);
        // the hours behind the first one may be later
        flat().tell("surge", 100, 123, 10).due(100, "window", 60, 24);
        flat().tell("surge", 101, 124, 10).due(NONE, "window", 60, 24).due(NONE, "window", 60, 1);
        flat().tell("surge", 100, 122, 10).due(NONE, "window", 60, 24).due(100, "window", 60, 23);
        flat().tell("surge", 99, 122, 10).due(99, "window", 60, 24);
        // from NOW on, not from the hour 0
        flat().tell("surge", 101, 101, 10).tell("pass", 1).due(101, "window", 60, 1);
        Trial end = flat().tell("surge", 1100, 1123, 10).hours(999).due(NONE, "window", 60, 1).tell("pass", 1);
        end.due(1100, "window", 60, 24).due(1000, "window", 50, 24);
        flat().tell("surge", 1101, 2000, 10).hours(1000).due(NONE, "window", 60, 1);
    }

    private static void eachOfTheHours() {
        Trial x = flat().tell("surge", 5, 7, 10).due(5, "window", 60, 1).due(5, "window", 60, 2)
                .due(5, "window", 60, 3);
        x.due(NONE, "window", 60, 4).tell("surge", 9, 12, 10).due(9, "window", 60, 4).due(NONE, "window", 60, 5);
        // an hour between that is too low, by 1
        Trial y = flat().tell("surge", 2, 25, 10).tell("surge", 13, 13, -1).due(2, "window", 60, 11);
        y.due(14, "window", 60, 12).due(NONE, "window", 60, 13).due(2, "window", 59, 24);
        // the last hour, then the first one is too low
        flat().tell("surge", 2, 24, 10).due(NONE, "window", 60, 24).due(2, "window", 60, 23);
        // by a tide: 60, 65, 70, 65, 60, 55, 50, 55, 60
        Trial z = flat().tell("turn", 8, 4, 20, 2).due(0, "window", 60, 5).due(NONE, "window", 60, 6)
                .due(1, "window", 65, 3);
        z.tell("pass", 1).due(1, "window", 65, 3).due(8, "window", 60, 5).tell("pass", 1).due(9, "window", 65, 3);
    }

    private static void aboveTheBed() {
        // at least: 50 above a bed of 0, 40 above one of 10 by 105 / 10
        flat().due(0, "window", 49, 1).due(0, "window", 50, 1).due(NONE, "window", 51, 1);
        Trial x = new Trial().tell("section", 10, 90, 90, 105).tell("section", 1, 0, 0, 0);
        x.due(0, "window", 40, 24).due(NONE, "window", 41, 1);
        // the bed as it is now: of 10, of 9 behind dredging; a bed of 11 by what settles
        x.tell("permit", 0, 9).tell("dredge", 0, 5, 1).due(NONE, "window", 41, 1).tell("dredge", 0, 1, 1);
        x.due(0, "window", 41, 1).due(NONE, "window", 42, 1);
        Trial y = new Trial().tell("section", 1, 0, 50, 10).tell("river", 0, 1).due(0, "window", 40, 1).tell("pass", 1);
        y.due(11, "ofSection", 0, 5).due(NONE, "window", 40, 1).due(1, "window", 39, 1);
        // the bed of the SECTION 0 alone, as low as it is; a bed above the SEA, and a SEA below 0
        new Trial().tell("section", 1, 0, 0, 0).tell("section", 1, 0, 0, 9000).due(0, "window", 50, 1);
        new Trial().tell("section", 1, 0, 0, 9000).tell("section", 1, 0, 0, 0).due(NONE, "window", 1, 1);
        new Trial().tell("section", 1, 0, 0, 49).due(0, "window", 1, 1).due(NONE, "window", 2, 1);
        new Trial().tell("section", 1, 0, 0, 50).due(NONE, "window", 1, 1);
        flat().tell("mean", 0).tell("surge", 0, 2000, -1).tell("surge", 7, 7, 2).due(7, "window", 1, 1);
    }

    private static void keel() {
        Trial.range(Promise23Test::flat, 0, 1, 200, "window", 7, 1);
        Trial x = flat().tell("mean", 1).due(0, "window", 1, 1).tell("mean", 0).due(NONE, "window", 1, 1);
        x.tell("mean", 100).tell("surge", 0, 200, 100).due(0, "window", 200, 24).tell("surge", 0, 200, -1);
        x.due(NONE, "window", 200, 1).due(0, "window", 199, 1);
    }

    private static void hours() {
        Trial.range(Promise23Test::flat, 1, 1, 24, "window", 7, 7);
        Trial x = flat().tell("surge", 3, 3, 10).due(3, "window", 60, 1).due(NONE, "window", 60, 2);
        x.tell("surge", 30, 53, 10).due(30, "window", 60, 24).due(30, "window", 60, 2);
    }

    private static void hourOrNone() {
        flat().due(0, "window", 50, 1).due(-1, "window", 51, 1).due(0, "window", 1, 24).due(-1, "window", 200, 24);
        // asking changes nothing
        flat().tell("window", 1, 24).tell("window", 200, 24).due(0, "now").due(0, "window", 50, 1).seas(0, 50);
    }

    private static void outOfRange() {
        int[][] wrong = {{0, 1}, {201, 1}, {1, 0}, {1, 25}, {-1, -1}, {Integer.MAX_VALUE, 1}, {1, Integer.MIN_VALUE},
            {Integer.MIN_VALUE, 1}, {1, Integer.MAX_VALUE}};
        for (int[] w : wrong) {
            flat().argument("window", w);
            new Trial().argument("window", w);
            flat().hours(1000).argument("window", w);
        }
    }

    private static void noSections() {
        new Trial().state("window", 1, 1).state("window", 200, 24).tell("pass", 1).state("window", 1, 1);
        new Trial().state("window", 1, 1).tell("section", 1, 0, 0, 0).due(0, "window", 1, 1);
    }
}
