/** What stands under "An hour", D: what flows between neighbours, and the salt that creeps in below. */
public final class HourDTest {
    public static void main(String[] args) {
        Check.under("An hour");
        Check.sentence("D. For each two SECTIONS that are neighbours, one k, from 0 on, and the one behind it:",
                HourDTest::neighbours);
        Check.sentence("d is the LEVEL of k less that of the other one.", HourDTest::levels);
        Check.sentence("If d is above 0, as much as d times the lesser area of both, divided by 4, rounded down, at"
                + " most all WATER of the LOW of k, flows from there into the LOW of the other one.", HourDTest::up);
        Check.sentence("If d is below 0, likewise, with (less d), at most all WATER of the UP of the other one, from"
                + " there into the UP of k.", HourDTest::down);
        Check.sentence("The RUN of both grows by that, and by nothing else (not by B, C, or what c is below).",
                HourDTest::run);
        Check.sentence("Then, if the salinity of the LOW of k is above that of the LOW of the other one:",
                HourDTest::saltier);
        Check.sentence("c is the lesser of the WATER of the LOW of k and that of the UP of the other one, divided by 8,"
                + " rounded down;", HourDTest::lesser);
        Check.sentence("c flows from the LOW of k into the LOW of the other one, and then c from the UP of that into"
                + " the UP of k.", HourDTest::exchange);
        Check.sentence("(The CLOUD that goes with what flows into UP is that of the SECTION of this UP then.)",
                HourDTest::cloud);
        Check.end();
    }

    /** Two SECTIONS of such areas and WATER behind a closed barrier. */
    private static Trial two(int area, int up, int low, int areaBehind, int upBehind, int lowBehind) {
        Trial x = new Trial().tell("barrier", 0, 0).tell("section", area, up, low, 0);
        return x.tell("section", areaBehind, upBehind, lowBehind, 0);
    }

    /** WATER of UP and of LOW of two neighbours behind one hour, and the RUN of both. */
    private static void hour(Trial x, int up, int low, int upBehind, int lowBehind, int run) {
        x.tell("pass", 1).due(up, "ofSection", 0, 0).due(low, "ofSection", 0, 2);
        x.due(upBehind, "ofSection", 1, 0).due(lowBehind, "ofSection", 1, 2);
        x.due(run, "ofSection", 0, 9).due(run, "ofSection", 1, 9);
    }

    private static void neighbours() {
        // from 0 on: 40 / 4, then 10 / 4 of them, then 2 / 4 of these
        Trial x = two(1, 0, 40, 1, 0, 0).tell("section", 1, 0, 0, 0).tell("section", 1, 0, 0, 0).tell("pass", 1);
        x.due(30, "ofSection", 0, 2).due(8, "ofSection", 1, 2).due(2, "ofSection", 2, 2).due(0, "ofSection", 3, 2);
        // WATER of the last SECTION comes no farther than to its neighbour in an hour
        Trial y = two(1, 0, 0, 1, 0, 0).tell("section", 1, 40, 0, 0).tell("pass", 1);
        y.due(0, "ofSection", 0, 0).due(10, "ofSection", 1, 0).due(30, "ofSection", 2, 0);
        y.tell("pass", 1).due(2, "ofSection", 0, 0).due(13, "ofSection", 1, 0).due(25, "ofSection", 2, 0);
        // neighbours alone: 0 and 2 are as unlike as can be, 0 and 1 as well as 1 and 2 are not
        Trial z = two(1, 0, 6, 1, 0, 3).tell("section", 1, 0, 0, 0).tell("pass", 1);
        z.due(6, "ofSection", 0, 2).due(3, "ofSection", 1, 2).due(0, "ofSection", 2, 2);
        // none without a neighbour; seven pairs of eight
        new Trial().tell("barrier", 0, 0).tell("section", 1, 0, 90, 0).tell("pass", 1).row("ofSection", 0, 0, 0, 90);
        Trial eight = new Trial().tell("barrier", 0, 0);
        for (int k = 0; k < 8; k++) {
            eight.tell("section", 1, 0, 80 - 10 * k, 0);
        }
        // 2 flow from 0 to 1, then 3 each time, as what came ahead raises the LEVEL
        eight.tell("pass", 1).due(78, "ofSection", 0, 2).due(2, "ofSection", 0, 9).due(69, "ofSection", 1, 2);
        eight.due(20, "ofSection", 6, 2).due(6, "ofSection", 6, 9).due(13, "ofSection", 7, 2).due(3, "ofSection", 7, 9);
    }

    private static void levels() {
        // beds of 10 and of 16, depths of 10 and of 0
        Trial x = new Trial().tell("barrier", 0, 0).tell("section", 4, 0, 40, 40).tell("section", 4, 0, 0, 64);
        hour(x, 0, 36, 0, 4, 4);
        Trial y = new Trial().tell("barrier", 0, 0).tell("section", 4, 0, 0, 64).tell("section", 4, 40, 0, 40);
        hour(y, 4, 0, 36, 0, 4);
        // both layers count, on both sides; as high as one another: nothing flows
        hour(two(4, 40, 40, 4, 24, 40), 40, 36, 24, 44, 4);
        hour(two(4, 40, 24, 4, 40, 40), 44, 24, 36, 40, 4);
        hour(two(4, 40, 24, 4, 24, 40), 40, 24, 24, 40, 0);
        // each LEVEL is rounded down by itself: 10 and 9 by 43 and 39; 10 and 10 by 40 and 43
        hour(two(4, 0, 43, 4, 0, 39), 0, 42, 0, 40, 1);
        hour(two(4, 0, 43, 4, 0, 40), 0, 43, 0, 40, 0);
    }

    private static void up() {
        // d is 3, 4, 7, 8: a quarter of it
        hour(two(1, 0, 3, 1, 0, 0), 0, 3, 0, 0, 0);
        hour(two(1, 0, 4, 1, 0, 0), 0, 3, 0, 1, 1);
        hour(two(1, 0, 7, 1, 0, 0), 0, 6, 0, 1, 1);
        hour(two(1, 0, 8, 1, 0, 0), 0, 6, 0, 2, 2);
        // d is 1 and the area 3, 4; d is 20, and the lesser area 2 of k, 2 of the other one
        hour(two(3, 0, 3, 3, 0, 0), 0, 3, 0, 0, 0);
        hour(two(4, 0, 4, 4, 0, 0), 0, 3, 0, 1, 1);
        hour(two(2, 0, 40, 8, 0, 0), 0, 30, 0, 10, 10);
        hour(two(8, 0, 160, 2, 0, 0), 0, 150, 0, 10, 10);
        // 33 would flow: LOW has 32, 33, 34, and none
        hour(two(1, 100, 32, 1, 0, 0), 100, 0, 0, 32, 32);
        hour(two(1, 100, 33, 1, 0, 0), 100, 0, 0, 33, 33);
        hour(two(1, 100, 34, 1, 0, 0), 100, 1, 0, 33, 33);
        hour(two(1, 132, 0, 1, 0, 0), 132, 0, 0, 0, 0);
        // UP of the other one stays as it is
        hour(two(1, 0, 60, 1, 20, 0), 0, 50, 20, 10, 10);
    }

    private static void down() {
        hour(two(1, 0, 0, 1, 3, 0), 0, 0, 3, 0, 0);
        hour(two(1, 0, 0, 1, 4, 0), 1, 0, 3, 0, 1);
        hour(two(1, 0, 0, 1, 7, 0), 1, 0, 6, 0, 1);
        hour(two(1, 0, 0, 1, 8, 0), 2, 0, 6, 0, 2);
        hour(two(3, 0, 0, 3, 3, 0), 0, 0, 3, 0, 0);
        hour(two(4, 0, 0, 4, 4, 0), 1, 0, 3, 0, 1);
        hour(two(8, 0, 0, 2, 40, 0), 10, 0, 30, 0, 10);
        hour(two(2, 0, 0, 8, 160, 0), 10, 0, 150, 0, 10);
        // 33 would flow: UP has 32, 33, 34, and none
        hour(two(1, 0, 0, 1, 32, 100), 32, 0, 0, 100, 32);
        hour(two(1, 0, 0, 1, 33, 100), 33, 0, 0, 100, 33);
        hour(two(1, 0, 0, 1, 34, 100), 33, 0, 1, 100, 33);
        hour(two(1, 0, 0, 1, 0, 132), 0, 0, 0, 132, 0);
        // LOW of k stays as it is
        hour(two(1, 0, 20, 1, 60, 0), 10, 20, 50, 0, 10);
    }

    private static void run() {
        // as much as flows, not as would flow; of both
        two(1, 100, 3, 1, 0, 0).tell("pass", 1).due(3, "ofSection", 0, 9).due(3, "ofSection", 1, 9);
        // the one between two: 40 / 4, then 10 / 4; 2 up, then 5 down
        Trial x = two(1, 0, 40, 1, 0, 0).tell("section", 1, 0, 0, 0).tell("pass", 1);
        x.due(10, "ofSection", 0, 9).due(12, "ofSection", 1, 9).due(2, "ofSection", 2, 9);
        Trial y = two(1, 0, 8, 1, 0, 0).tell("section", 1, 22, 0, 0).tell("pass", 1);
        y.due(2, "ofSection", 0, 9).due(7, "ofSection", 1, 9).due(5, "ofSection", 2, 9);
        // not by B: 250 come in, and 31 of these creep on
        Trial z = new Trial().tell("section", 10, 0, 0, 0).tell("section", 10, 250, 0, 0).tell("pass", 1);
        z.due(250, "sum", 0).due(31, "ofSection", 0, 0).due(0, "ofSection", 0, 9).due(0, "ofSection", 1, 9);
        // not by B when the SEA takes, nor by C
        Trial one = new Trial().tell("section", 1, 90, 0, 0).tell("river", 50, 0).tell("pass", 1);
        one.due(20, "sum", 1).due(0, "ofSection", 0, 9);
        // a flow and what creeps behind it: 15, without the 29
        creepingDown().due(29, "ofSection", 1, 2).due(15, "ofSection", 0, 9).due(15, "ofSection", 1, 9);
    }

    /** LOW of 0 has so much WATER and 30 of SALT, and the LEVEL of 1 is the same, with such an UP. */
    private static Trial brackish(int low, int upBehind) {
        Trial x = new Trial().tell("mean", low + 1).tell("section", 1, 0, low - 1, 0);
        return x.tell("section", 1, upBehind, low - upBehind, 0).tell("pass", 1);
    }

    private static void saltier() {
        // 30 / 30 is above 0: 16 / 8 creep; 30 / 31 is 0 and not above it
        brackish(30, 16).row("ofSection", 0, 2, 0, 28, 28, 0, 0, 30, 0, 1, 0).row("ofSection", 1, 14, 0, 16, 2);
        brackish(31, 16).row("ofSection", 0, 0, 0, 31, 30, 0, 0, 31, 0, 0, 0).row("ofSection", 1, 16, 0, 15, 0);
        // none of SALT at all
        hour(two(1, 0, 40, 1, 20, 20), 0, 40, 20, 20, 0);
        // 30 is not above 30: 31 crept on in the hour 0; in the hour 1 125 come, and 30 flow, but nothing creeps
        Trial x = new Trial().tell("section", 10, 0, 0, 0).tell("section", 10, 250, 0, 0).tell("pass", 2);
        x.row("ofSection", 0, 31, 210, 314, 9210, 0, 0, 34, 6, 29, 30);
        x.row("ofSection", 1, 219, 450, 61, 1380, 0, 0, 28, 2, 22, 30);
        // 28 is below 30: nothing creeps, though 108 of the river are in UP of 1, and both LEVELS are 20
        Trial y = SectionsTest.mixed().tell("barrier", 0, 0).tell("river", 108, 0).tell("pass", 1);
        y.row("ofSection", 0, 20, 150, 140, 4050, 0, 0, 20, 7, 28, 0);
        y.row("ofSection", 1, 108, 0, 52, 1560, 0, 0, 20, 0, 30, 0);
    }

    private static void lesser() {
        // UP of the other one is the lesser: 7, 8, 15, 16 by 8
        brackish(30, 7).due(0, "ofSection", 0, 0).due(30, "ofSection", 0, 2).due(7, "ofSection", 1, 0);
        brackish(30, 8).due(1, "ofSection", 0, 0).due(29, "ofSection", 0, 2).due(7, "ofSection", 1, 0);
        brackish(30, 15).due(1, "ofSection", 0, 0).due(29, "ofSection", 0, 2).due(14, "ofSection", 1, 0);
        brackish(30, 16).due(2, "ofSection", 0, 0).due(28, "ofSection", 0, 2).due(14, "ofSection", 1, 0);
        // LOW of k is: 30, 31 / 8 is 3, 32 / 8 is 4; LEVELS by a bed of 6 and a depth of 24, 7 and 24, 8 and 24
        int[][] rows = {{29, 1, 60, 3}, {29, 2, 70, 3}, {29, 3, 80, 4}};
        for (int[] r : rows) {
            Trial x = new Trial().tell("mean", r[0] + 2 * r[1]).tell("section", 1, 0, r[0], 0);
            x.tell("section", 10, 240, 0, r[2]).tell("pass", 1).due(0, "ofSection", 0, 9);
            x.due(r[3], "ofSection", 0, 0).due(r[0] + r[1] - r[3], "ofSection", 0, 2);
            x.due(240 - r[3], "ofSection", 1, 0).due(r[3], "ofSection", 1, 2);
        }
        // the WATER is that behind the flow: UP of 1 has 235 of 250, LOW of 0 has 250
        creepingDown().due(206, "ofSection", 1, 0).due(29, "ofSection", 1, 2);
        // an empty UP of the other one
        new Trial().tell("section", 1, 0, 0, 0).tell("section", 1, 0, 25, 0).tell("pass", 1)
                .row("ofSection", 0, 0, 0, 25, 750).row("ofSection", 1, 0, 0, 25, 0);
    }

    private static void exchange() {
        // 250 come with 7500; c is 31: 930 of SALT up in LOW, 31 of fresh WATER down in UP
        Trial x = new Trial().tell("section", 10, 0, 0, 0).tell("section", 10, 250, 0, 0).tell("pass", 1);
        x.row("ofSection", 0, 31, 0, 219, 6570, 0, 0, 25, 0, 30, 0);
        x.row("ofSection", 1, 219, 0, 31, 930, 0, 0, 25, 0, 30, 0);
        // SALT in both layers: 10 of 60 flow with 250 of 1500; then 5 of 50 creep with 125 of 1250, and 5 of 40 go
        // back above with 150 * 5 / 40, which is 18 and some
        Trial y = HourEFTest.runOfTwenty().tell("barrier", 0, 0).tell("pass", 1);
        y.row("ofSection", 0, 45, 318, 45, 1125).row("ofSection", 1, 35, 132, 35, 825).due(10, "ofSection", 0, 9);
    }

    /** 15 flow down and 29 creep, with a CLOUD of 20 in the SECTION 1. */
    private static Trial creepingDown() {
        Trial x = new Trial().tell("section", 10, 0, 0, 0).tell("section", 10, 250, 0, 60);
        return x.tell("river", 0, 20).tell("pass", 1);
    }

    private static void cloud() {
        // LEVELS 25 and 31: 15 of 250 flow with 20 * 15 / 250; 29 of 235 creep with 19 * 29 / 235
        creepingDown().row("ofSection", 0, 44, 0, 221, 6630, 3, 0, 26, 0, 30, 15)
                .row("ofSection", 1, 206, 0, 29, 870, 17, 60, 29, 0, 30, 15);
        // all WATER of UP takes all CLOUD: a RUN of 10, by which none settles
        Trial x = two(1, 0, 0, 1, 10, 100).tell("river", 0, 7);
        hour(x, 10, 0, 0, 100, 10);
        x.due(7, "ofSection", 0, 4).due(0, "ofSection", 1, 4).due(0, "ofSection", 0, 5);
        // none goes up with LOW
        Trial y = two(1, 0, 80, 1, 40, 0).tell("river", 0, 7);
        hour(y, 0, 70, 40, 10, 10);
        y.due(0, "ofSection", 0, 4).due(7, "ofSection", 1, 4);
    }
}
