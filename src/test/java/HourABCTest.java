/** What stands under "An hour": its order, the steps A to C, and its end. */
public final class HourABCTest {
    private static final int NONE = Saltwedge.NONE;

    public static void main(String[] args) {
        Check.under("An hour");
        Check.sentence("When an hour goes by, this is done in this order;", HourABCTest::order);
        Check.sentence("the RUN of each SECTION is 0 at first:", HourABCTest::runAtFirst);
        Check.sentence("A. The barrier is looked at.", HourABCTest::lookedAt);
        Check.sentence("B. If it is not closed, and there are SECTIONS:", HourABCTest::notClosed);
        Check.sentence("d is the SEA less the LEVEL of the SECTION 0.", HourABCTest::seaLessLevel);
        Check.sentence("If d is above 0, d times its area, divided by 2, rounded down, comes into its LOW as WATER,"
                + " with 30 of SALT for each.", HourABCTest::seaComes);
        Check.sentence("If d is below 0, as much as (less d) times its area, divided by 2, rounded down, at most all"
                + " WATER of its UP, flows out of its UP into the sea, SALT and CLOUD with it.", HourABCTest::seaTakes);
        Check.sentence("C. The river, 0 to 500 of WATER, 0 at first, with its silt, 0 to 500, which comes without"
                + " WATER as well, comes into the UP, and the CLOUD, of the last SECTION;", HourABCTest::riverComes);
        Check.sentence("without SECTIONS nothing comes.", HourABCTest::nowhereToCome);
        Check.sentence("Then the hour is over, and NOW is 1 more.", HourABCTest::over);
        Check.end();
    }

    private static Trial one(int area, int up, int low, int mud) {
        return new Trial().tell("section", area, up, low, mud);
    }

    private static void order() {
        // A ahead of B: the barrier that closes in this hour keeps the sea out
        one(1, 0, 0, 0).tell("barrier", 49, 0).tell("pass", 1).due(0, "sum", 0);
        // B ahead of C: the LEVEL is 0 still, and nothing but the 5 of UP leaves
        one(1, 0, 0, 0).tell("river", 10, 0).tell("pass", 1).due(25, "sum", 0).row("ofSection", 0, 10, 0, 25);
        one(1, 5, 100, 0).tell("river", 10, 6).tell("pass", 1).due(5, "sum", 1).due(0, "sum", 8)
                .row("ofSection", 0, 10, 0, 100, 0, 3, 3);
        // B ahead of D: the 25 that come are on their way at once; D from 0 on: 6 / 4 of them go on once more
        Trial x = one(1, 0, 0, 0).tell("section", 1, 0, 0, 0).tell("section", 1, 0, 0, 0).tell("pass", 1);
        x.row("ofSection", 0, 0, 0, 19).row("ofSection", 1, 0, 0, 5).row("ofSection", 2, 0, 0, 1);
        // C ahead of D: of the river's 8 that come, 2 flow on
        Trial y = one(1, 0, 0, 0).tell("section", 1, 0, 0, 0).tell("barrier", 0, 0).tell("river", 8, 0).tell("pass", 1);
        y.row("ofSection", 0, 2, 0, 0).row("ofSection", 1, 6, 0, 0);
        // C ahead of F: the silt settles at once; D ahead of E and F: the RUN of this hour mixes and lifts
        one(1, 0, 50, 0).tell("river", 0, 9).tell("pass", 1).row("ofSection", 0, 0, 0, 50, 0, 4, 5);
        SectionsTest.mixed().row("ofSection", 0, 20, 150, 140, 4050);
        Trial z = one(4, 0, 192, 9).tell("section", 4, 0, 0, 8).tell("barrier", 0, 0).tell("pass", 1);
        z.due(48, "ofSection", 0, 9).due(6, "ofSection", 0, 4).due(6, "ofSection", 1, 4);
        // E ahead of G: UP has SALT by E alone, and the intake tastes it
        Trial g = one(8, 20, 0, 0).tell("section", 8, 0, 0, 0).tell("intake", 0, 1, 6, 9, 0).tell("pass", 1);
        g.due(7, "ofSection", 0, 7).due(1, "ofIntake", 0, 3);
        // C ahead of G: the river's WATER is taken in the hour in which it comes
        one(1, 0, 50, 0).tell("intake", 0, 5, 0, 9, 0).tell("river", 3, 0).tell("pass", 1).due(3, "ofIntake", 0, 1);
    }

    private static void runAtFirst() {
        // depths of 25 and 13, 22 and 16, 20 and 17, 19 and 18 three times, 19 and 19
        Trial x = one(4, 0, 100, 0).tell("section", 4, 0, 52, 0).tell("barrier", 0, 0);
        x.due(0, "ofSection", 0, 9).due(0, "ofSection", 1, 9);
        for (int run : new int[] {12, 6, 3, 1, 1, 1, 0}) {
            x.tell("pass", 1).due(run, "ofSection", 0, 9).due(run, "ofSection", 1, 9);
        }
        // a RUN of 48 lifts 6; that of 25 behind it does not lift, as both together would
        Trial y = one(4, 0, 192, 90).tell("section", 4, 0, 0, 88).tell("barrier", 0, 0).tell("pass", 1);
        y.due(48, "ofSection", 0, 9).due(84, "ofSection", 0, 5);
        y.tell("pass", 1).due(25, "ofSection", 0, 9).due(84, "ofSection", 0, 5);
    }

    private static void lookedAt() {
        // in each hour, once, without SECTIONS as well
        new Trial().tell("barrier", 49, 0).tell("pass", 1).row("closure", 0, 0, 0, 1).tell("pass", 5)
                .row("closure", 0, 0, 5, 1).due(1, "closures");
        one(1, 0, 0, 0).tell("barrier", 49, 0).tell("pass", 2).row("closure", 0, 0, 1, 1);
    }

    private static void notClosed() {
        one(1, 0, 0, 0).tell("barrier", 49, 0).tell("pass", 3).due(0, "sum", 0).due(0, "sum", 4)
                .row("ofSection", 0, 0, 0, 0);
        one(1, 100, 0, 0).tell("barrier", 49, 0).tell("pass", 3).due(0, "sum", 1).row("ofSection", 0, 100, 0, 0);
        // closed by what is foretold, while the SEA is below the mark
        one(1, 0, 0, 0).tell("surge", 2, 2, 9).tell("barrier", 50, 2).tell("pass", 1).due(0, "sum", 0);
        // there, but open; gone
        one(1, 0, 0, 0).tell("barrier", 50, 0).tell("pass", 1).due(25, "sum", 0);
        one(1, 0, 0, 0).tell("barrier", 49, 0).tell("pass", 1).tell("barrier", NONE, 0).tell("pass", 1)
                .due(25, "sum", 0);
        one(1, 100, 0, 0).tell("barrier", 50, 0).tell("pass", 1).due(25, "sum", 1);
        new Trial().tell("pass", 3).due(0, "sum", 0).due(0, "sum", 1).due(0, "sum", 4).due(0, "sum", 5);
    }

    private static void seaLessLevel() {
        // the bed of 45 counts, and both layers: d is 5, 2, 0, -1
        one(2, 0, 0, 90).tell("pass", 1).due(5, "sum", 0);
        one(2, 4, 2, 90).tell("pass", 1).due(2, "sum", 0);
        one(2, 4, 6, 90).tell("pass", 1).due(0, "sum", 0).due(0, "sum", 1).row("ofSection", 0, 4, 0, 6, 0, 0, 90, 50);
        one(2, 6, 6, 90).tell("pass", 1).due(1, "sum", 1);
        // the SEA of this hour: 50, 70, 50 by a turn, and 80 in a surge
        one(1, 0, 50, 0).tell("turn", 2, 1, 20, 0).tell("pass", 1).due(0, "sum", 0).tell("pass", 1).due(10, "sum", 0);
        one(1, 0, 50, 0).tell("surge", 1, 1, 30).tell("pass", 1).due(0, "sum", 0).tell("pass", 1).due(15, "sum", 0);
        // a SEA below 0: d is -51
        one(1, 100, 0, 0).tell("mean", 0).tell("surge", 0, 0, -2).tell("pass", 1).due(51, "sum", 1);
        // that of the SECTION 0 alone
        Trial x = one(1, 0, 50, 0).tell("section", 1, 0, 0, 0).tell("section", 100, 0, 10000, 0).tell("pass", 1);
        x.due(0, "sum", 0).due(0, "sum", 1);
    }

    private static void seaComes() {
        // LEVEL 1, d 49: 49 * 3 / 2; LEVEL 25, d 25: 25 * 3 / 2
        Trial x = one(3, 4, 0, 0).tell("pass", 1).row("ofSection", 0, 4, 0, 73, 2190, 0, 0, 25, 0, 30, 0);
        x.tell("pass", 1).row("ofSection", 0, 4, 0, 110, 3300).due(110, "sum", 0).due(3300, "sum", 4);
        // d is 1: half of an area of 1 is nothing, of 2 and of 3 it is 1
        one(1, 0, 49, 0).tell("pass", 1).row("ofSection", 0, 0, 0, 49, 0).due(0, "sum", 0);
        one(2, 0, 98, 0).tell("pass", 1).row("ofSection", 0, 0, 0, 99, 30).due(1, "sum", 0);
        one(3, 0, 147, 0).tell("pass", 1).row("ofSection", 0, 0, 0, 148, 30).due(1, "sum", 0);
        // d is 0
        one(100, 0, 5000, 0).tell("pass", 1).row("ofSection", 0, 0, 0, 5000, 0);
        // as much as can come at once
        Trial high = new Trial().tell("mean", 100).tell("section", 100, 0, 0, 0);
        for (int i = 0; i < 20; i++) {
            high.tell("surge", 0, 0, 100);
        }
        high.tell("pass", 1).row("ofSection", 0, 0, 0, 105000, 3150000).due(3150000, "sum", 4);
    }

    private static void seaTakes() {
        // d is -25 by a LEVEL of 75: 37 of UP, 38 as well, and no more than there are
        one(3, 0, 225, 0).tell("pass", 1).due(0, "sum", 1).row("ofSection", 0, 0, 0, 225, 0);
        one(3, 36, 189, 0).tell("pass", 1).due(36, "sum", 1).row("ofSection", 0, 0, 0, 189, 0);
        one(3, 37, 188, 0).tell("pass", 1).due(37, "sum", 1).row("ofSection", 0, 0, 0, 188, 0);
        one(3, 38, 187, 0).tell("pass", 1).due(37, "sum", 1).row("ofSection", 0, 1, 0, 187, 0);
        // d is -1: half of an area of 1 is nothing, of 2 and of 3 it is 1
        one(1, 51, 0, 0).tell("pass", 1).due(0, "sum", 1).row("ofSection", 0, 51, 0, 0, 0);
        one(2, 102, 0, 0).tell("pass", 1).due(1, "sum", 1).row("ofSection", 0, 101, 0, 0, 0);
        one(3, 153, 0, 0).tell("pass", 1).due(1, "sum", 1).row("ofSection", 0, 152, 0, 0, 0);
        // SALT with it: 12 of 20 with 90 of 150; all of it with all
        SectionsTest.mixed().tell("mean", 17).tell("pass", 1).due(90, "sum", 5);
        SectionsTest.mixed().tell("mean", 15).tell("pass", 1).due(20, "sum", 1).due(150, "sum", 5);
        // CLOUD with it: 25 of 50 with 4 of 9, then all of 25 with the 2 that did not settle
        Trial x = one(1, 50, 50, 0).tell("section", 1, 0, 0, 120).tell("permit", 1, 9).tell("dredge", 1, 9, 0);
        x.tell("pass", 1).due(25, "sum", 1).due(4, "sum", 8).row("ofSection", 0, 25, 0, 50, 0, 2, 3);
        x.tell("mean", 0).tell("pass", 1).due(50, "sum", 1).due(6, "sum", 8).row("ofSection", 0, 0, 0, 50, 0, 0, 3);
    }

    private static void riverComes() {
        Promise05Test.water();
        Promise05Test.silt();
        // none at first
        one(1, 0, 50, 0).tell("pass", 1).due(0, "sum", 2).due(0, "sum", 7).row("ofSection", 0, 0, 0, 50, 0, 0, 0);
        // WATER alone, silt alone, and both, into UP of the last SECTION and its CLOUD, half of which settles
        Trial x = one(9, 0, 450, 0).tell("section", 9, 0, 450, 0).tell("river", 3, 0).tell("pass", 1);
        x.row("ofSection", 0, 0, 0, 450, 0, 0, 0).row("ofSection", 1, 3, 0, 450, 0, 0, 0).due(3, "sum", 2);
        x.tell("river", 0, 10).tell("pass", 1).row("ofSection", 1, 3, 0, 450, 0, 5, 5).due(3, "sum", 2)
                .due(10, "sum", 7);
        x.tell("river", 2, 1).tell("pass", 1).row("ofSection", 1, 5, 0, 450, 0, 3, 8).due(5, "sum", 2)
                .due(11, "sum", 7);
        x.row("ofSection", 0, 0, 0, 450, 0, 0, 0);
        // as much as can come; behind a closed barrier too
        Trial much = one(100, 0, 5000, 0).tell("river", 500, 500).tell("barrier", 49, 0).tell("pass", 1);
        much.row("ofSection", 0, 500, 0, 5000, 0, 250, 250).due(500, "sum", 2).due(500, "sum", 7);
    }

    private static void nowhereToCome() {
        Trial x = new Trial().tell("river", 500, 500).tell("pass", 3).due(0, "sum", 2).due(0, "sum", 7);
        x.due(500, "river", 0, 0);
    }

    private static void over() {
        new Trial().tell("pass", 1).due(1, "now").tell("pass", 1).due(2, "now");
        one(1, 0, 0, 0).tell("barrier", 0, 12).tell("pass", 1).due(1, "now").tell("pass", 4).due(5, "now");
        new Trial().hours(999).due(1000, "pass", 1).due(1000, "now");
    }
}
