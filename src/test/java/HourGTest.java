/** What stands under "An hour", G: what intakes take, when they are stopped, and what goes to the town. */
public final class HourGTest {
    public static void main(String[] args) {
        Check.under("An hour");
        Check.sentence("G. INTAKES, at most 6, by numbers:", HourGTest::byNumbers);
        Check.sentence("an INTAKE is at a SECTION, has a rate, a grain, a room and a use; what it holds is 0 at first.",
                HourGTest::atFirst);
        Check.sentence("If the salinity of the UP there is above the grain, or the UP has no WATER, it is STOPPED in"
                + " that hour;", HourGTest::stopped);
        Check.sentence("otherwise as much WATER as the rate, or all of the UP, or as it has room for still, whichever"
                + " is least, flows out of the UP, SALT with it, but no CLOUD, and it holds that WATER.",
                HourGTest::takes);
        Check.sentence("Then, of what it holds, the use goes to the town, or all, if that is less, and what is lacking"
                + " is counted.", HourGTest::town);
        Check.end();
    }

    private static void byNumbers() {
        Promise08Test.mostIntakes();
        // the first takes what it can, the second the rest, the third finds none; each has a use of its own
        Trial x = Trial.fresh(25).tell("intake", 0, 20, 0, 100, 0).tell("intake", 0, 20, 0, 100, 0);
        x.tell("intake", 0, 20, 0, 100, 4).tell("pass", 1);
        x.row("ofIntake", 0, 20, 20, 0, 0, 0).row("ofIntake", 1, 5, 5, 0, 0, 0).row("ofIntake", 2, 0, 0, 4, 1, 1);
        x.due(25, "sum", 3);
        // all six
        Trial six = Trial.fresh(21);
        for (int i = 0; i < 6; i++) {
            six.tell("intake", 0, i + 1, 0, 10, 0);
        }
        six.tell("pass", 1).due(0, "ofSection", 0, 0).due(21, "sum", 3);
        for (int i = 0; i < 6; i++) {
            six.row("ofIntake", i, i + 1, i + 1, 0, 0, 0);
        }
    }

    private static void atFirst() {
        Trial.fresh(9).tell("intake", 0, 1, 0, 1, 0).row("ofIntake", 0, 0, 0, 0, 0, 0);
        // at a SECTION: 10 / 4 flow down ahead of it
        Trial x = new Trial().tell("barrier", 0, 0).tell("section", 1, 10, 0, 0).tell("section", 1, 20, 0, 0);
        x.tell("intake", 1, 5, 0, 10, 0).tell("pass", 1).due(12, "ofSection", 0, 0).due(13, "ofSection", 1, 0);
        Trial y = new Trial().tell("barrier", 0, 0).tell("section", 1, 10, 0, 0).tell("section", 1, 20, 0, 0);
        y.tell("intake", 0, 5, 0, 10, 0).tell("pass", 1).due(7, "ofSection", 0, 0).due(18, "ofSection", 1, 0);
        // told between hours, it serves from NOW on
        Trial.fresh(9).tell("pass", 2).tell("intake", 0, 1, 0, 5, 0).tell("pass", 2).row("ofIntake", 0, 2, 2, 0, 0, 0);
        Promise08Test.rate();
        Promise08Test.grain();
        Promise08Test.room();
        Promise08Test.use();
    }

    private static void stopped() {
        // 150 / 20 is 7: above 6, not above 7 and 8
        for (int grain = 6; grain <= 8; grain++) {
            Trial x = new Trial().tell("section", 8, 20, 0, 0).tell("section", 8, 0, 0, 0);
            x.tell("intake", 0, 1, grain, 9, 0).tell("pass", 1).due(grain == 6 ? 1 : 0, "ofIntake", 0, 3);
            x.due(grain == 6 ? 20 : 19, "ofSection", 0, 0).due(grain == 6 ? 0 : 1, "ofIntake", 0, 0);
        }
        // the UP there, not the LOW, and not that of another SECTION
        Trial x = new Trial().tell("section", 1, 9, 0, 0).tell("intake", 0, 1, 0, 9, 0).tell("pass", 1);
        x.due(30, "ofSection", 0, 8).row("ofIntake", 0, 1, 1, 0, 0, 0);
        Trial y = SectionsTest.mixed().tell("intake", 1, 1, 0, 9, 0).tell("intake", 0, 1, 0, 9, 0);
        y.tell("barrier", 0, 0).tell("river", 108, 0).tell("pass", 1);
        y.row("ofIntake", 0, 1, 1, 0, 0, 0).row("ofIntake", 1, 0, 0, 0, 1, 1);
        // no WATER, by the greatest grain; with the first WATER it is no longer stopped
        Trial dry = Trial.fresh(0).tell("intake", 0, 5, 30, 9, 0).tell("pass", 2).row("ofIntake", 0, 0, 0, 0, 1, 2);
        dry.tell("river", 1, 0).tell("pass", 1).row("ofIntake", 0, 1, 1, 0, 0, 2);
        dry.tell("river", 0, 0).tell("pass", 1).row("ofIntake", 0, 1, 1, 0, 1, 3);
    }

    private static void takes() {
        // the rate, UP, the room: each of them the least, by 1
        int[][] rows = {{5, 6, 7, 5}, {5, 7, 6, 5}, {6, 5, 7, 5}, {7, 5, 6, 5}, {6, 7, 5, 5}, {7, 6, 5, 5},
            {5, 5, 5, 5}, {500, 1, 10000, 1}, {1, 500, 10000, 1}, {500, 500, 1, 1}, {500, 600, 10000, 500}};
        for (int[] r : rows) {
            Trial x = Trial.fresh(r[1]).tell("intake", 0, r[0], 0, r[2], 0).tell("pass", 1);
            x.row("ofIntake", 0, r[3], r[3], 0, 0, 0).due(r[1] - r[3], "ofSection", 0, 0).due(r[3], "sum", 3);
        }
        // the room that it has still: 17 of 30, then 4, then 1; none, and it is not stopped by that
        Trial x = Trial.fresh(90).tell("intake", 0, 14, 0, 30, 1).tell("pass", 1).row("ofIntake", 0, 13, 14, 0, 0, 0);
        x.tell("pass", 1).row("ofIntake", 0, 26, 28, 0, 0, 0).tell("pass", 1).row("ofIntake", 0, 29, 32, 0, 0, 0);
        x.tell("pass", 1).row("ofIntake", 0, 29, 33, 0, 0, 0);
        Trial full = Trial.fresh(90).tell("intake", 0, 4, 0, 4, 0).tell("pass", 3).row("ofIntake", 0, 4, 4, 0, 0, 0);
        full.due(86, "ofSection", 0, 0).due(4, "sum", 3);
        // SALT with it: 150 * 7 / 20 is 52 and some; all of it with all
        Trial y = new Trial().tell("section", 8, 20, 0, 0).tell("section", 8, 0, 0, 0).tell("intake", 0, 7, 7, 100, 0);
        y.tell("pass", 1).row("ofSection", 0, 13, 98).due(52, "sum", 6);
        Trial all = new Trial().tell("section", 8, 20, 0, 0).tell("section", 8, 0, 0, 0)
                .tell("intake", 0, 20, 7, 100, 0);
        all.tell("pass", 1).row("ofSection", 0, 0, 0).due(150, "sum", 6).due(20, "sum", 3);
        // no CLOUD: half of the 7 settles, and all of the rest stays
        Trial z = Trial.fresh(9).tell("river", 0, 7).tell("intake", 0, 9, 0, 9, 0).tell("pass", 1);
        z.row("ofSection", 0, 0, 0, 0, 0, 3, 4);
    }

    private static void town() {
        // it holds 5: a use of 0, 4, 5, 6, 500
        int[][] rows = {{0, 5, 0}, {4, 1, 0}, {5, 0, 0}, {6, 0, 1}, {500, 0, 495}};
        for (int[] r : rows) {
            Trial.fresh(9).tell("intake", 0, 5, 0, 5, r[0]).tell("pass", 1).row("ofIntake", 0, r[1], 5, r[2], 0, 0);
        }
        // it takes ahead of its use: the room of 4 is filled, and goes away
        Trial.fresh(9).tell("intake", 0, 9, 0, 4, 4).tell("pass", 2).row("ofIntake", 0, 0, 8, 0, 0, 0);
        // what it holds goes to the town while it is STOPPED too, and then it is lacking, hour by hour
        Trial x = Trial.fresh(8).tell("intake", 0, 8, 0, 8, 3).tell("pass", 1).row("ofIntake", 0, 5, 8, 0, 0, 0);
        x.tell("pass", 1).row("ofIntake", 0, 2, 8, 0, 1, 1).tell("pass", 1).row("ofIntake", 0, 0, 8, 1, 1, 2);
        x.tell("pass", 2).row("ofIntake", 0, 0, 8, 7, 1, 4);
        // as much as can be lacking
        Trial.fresh(0).tell("intake", 0, 1, 0, 1, 500).hours(1000).row("ofIntake", 0, 0, 0, 500000, 1, 1000);
    }
}
