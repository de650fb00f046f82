/** What stands under "An hour", E and F: a strong run mixes the salt, a weak one lets mud settle. */
public final class HourEFTest {
    private static final int NONE = Saltwedge.NONE;

    public static void main(String[] args) {
        Check.under("An hour");
        Check.sentence("E. In each SECTION whose RUN is 20 or more:", HourEFTest::twentyOrMore);
        Check.sentence("m is the lesser of the WATER of both layers, divided by 4, rounded down;", HourEFTest::lesser);
        Check.sentence("s is the SALT that would go with m out of LOW less that which would go with m out of UP;",
                HourEFTest::saltOfBoth);
        Check.sentence("if s is above 0, s goes from the SALT of LOW to that of UP.", HourEFTest::aboveNothing);
        Check.sentence("F. In each SECTION:", HourEFTest::each);
        Check.sentence("if the RUN is below 10,", HourEFTest::belowTen);
        Check.sentence("half of the CLOUD, rounded up, becomes MUD;", HourEFTest::half);
        Check.sentence("if it is above 40,", HourEFTest::aboveForty);
        Check.sentence("as much as the RUN divided by 8, rounded down,", HourEFTest::eighth);
        Check.sentence("or all MUD, if that is less, becomes CLOUD.", HourEFTest::allMud);
        Check.end();
    }

    private static Trial twoOfFour(int mud) {
        return new Trial().tell("section", 4, 40, 0, 0).tell("section", 4, 40, 0, mud).tell("pass", 1);
    }

    /** UP 40 with 300 and LOW 60 with 1500; behind it UP 40 with 150 and LOW 20 with 450. */
    static Trial runOfTwenty() {
        // 80 come with 2400; LEVELS of 30 and 10: 20 flow with 600; m is 10, and s 1800 * 10 / 60; 5, and 600 * 5 / 20
        return twoOfFour(0);
    }

    private static void twentyOrMore() {
        runOfTwenty().row("ofSection", 0, 40, 300, 60, 1500, 0, 0, 25, 7, 25, 20)
                .row("ofSection", 1, 40, 150, 20, 450, 0, 0, 15, 3, 22, 20);
        twoOfFour(4).row("ofSection", 0, 40, 0, 61, 1830, 0, 0, 25, 0, 30, 19)
                .row("ofSection", 1, 40, 0, 19, 570, 0, 4, 15, 0, 30, 19);
        // a RUN of 21: 62 come with 1860; m is 10, and s 1230 * 10 / 41; 4, and 630 * 4 / 21
        Trial above = new Trial().tell("mean", 41).tell("section", 4, 40, 0, 0).tell("section", 4, 16, 0, 0);
        above.tell("pass", 1).row("ofSection", 0, 40, 300, 41, 930).row("ofSection", 1, 16, 120, 21, 510);
        above.due(21, "ofSection", 0, 9).due(21, "ofSection", 1, 9);
        // 80 come: 15 of 80 flow with 450, 5 of 65 creep with 150; then 5 of 40 flow with 75, and 1 of 35 creeps with
        // 15: the RUNS are 15, 20 and 5, and just the one between mixes, 510 * 8 / 34
        Trial x = new Trial().tell("section", 4, 40, 0, 0).tell("section", 4, 40, 20, 0).tell("section", 4, 12, 40, 0);
        x.tell("pass", 1).row("ofSection", 0, 45, 0, 60, 1800).due(15, "ofSection", 0, 9);
        x.row("ofSection", 1, 36, 120, 34, 390).due(20, "ofSection", 1, 9);
        x.row("ofSection", 2, 11, 0, 46, 90).due(5, "ofSection", 2, 9);
    }

    private static void lesser() {
        // UP of 0 is the lesser: 40 and 60; LOW of 1 is: 20 and 40
        runOfTwenty().due(300, "ofSection", 0, 1).due(150, "ofSection", 1, 1);
        // 12 come with 360, 20 flow on with 23: 337 are left, in 293, 292, 289 and 288; UP has 3, 4, 7, 8
        brackish(3).row("ofSection", 0, 3, 0, 293, 337).due(20, "ofSection", 0, 9);
        brackish(4).row("ofSection", 0, 4, 1, 292, 336).due(20, "ofSection", 0, 9);
        brackish(7).row("ofSection", 0, 7, 1, 289, 336).due(20, "ofSection", 0, 9);
        brackish(8).row("ofSection", 0, 8, 2, 288, 335).due(20, "ofSection", 0, 9);
        brackish(0).row("ofSection", 0, 0, 0, 296, 338).due(20, "ofSection", 0, 9);
    }

    private static Trial brackish(int up) {
        Trial x = new Trial().tell("mean", 82).tell("section", 4, up, 304 - up, 0).tell("section", 4, 0, 236, 0);
        return x.tell("pass", 1);
    }

    private static void saltOfBoth() {
        // LEVELS 20 and 6: 28 of 140 flow with 810 of 4050; m is 5, s is 3240 * 5 / 112 less 150 * 5 / 20: 144 less 37
        Trial x = SectionsTest.mixed().tell("barrier", 0, 0).tell("pass", 1);
        x.row("ofSection", 0, 20, 257, 112, 3133).row("ofSection", 1, 0, 0, 80, 2370).due(28, "ofSection", 0, 9);
    }

    private static void aboveNothing() {
        // no SALT in either: s is 0
        Trial x = new Trial().tell("barrier", 0, 0).tell("section", 1, 40, 160, 0).tell("section", 1, 40, 40, 0);
        x.tell("pass", 1).row("ofSection", 0, 40, 0, 130, 0).row("ofSection", 1, 40, 0, 70, 0);
        x.due(30, "ofSection", 0, 9);
        // s is -1 in the SECTION 1: UP 40 with 4, LOW 114 with 8, m is 10: nothing goes; 0: 55 * 22 / 99 less 21 / 4
        Trial y = new Trial().tell("section", 4, 83, 109, 0).tell("section", 2, 169, 100, 0).tell("pass", 3);
        y.row("ofSection", 0, 147, 43, 99, 55).row("ofSection", 1, 63, 5, 114, 8);
        y.tell("mean", 20).tell("pass", 1).row("ofSection", 0, 88, 28, 99, 48).row("ofSection", 1, 40, 4, 114, 8);
        y.due(23, "ofSection", 1, 9);
    }

    private static void each() {
        // 45 flow from 0 to 1, 5 from 1 to 2, in which the silt of 7 settles
        Trial x = new Trial().tell("barrier", 0, 0).tell("section", 4, 0, 400, 40).tell("section", 4, 0, 220, 40);
        x.tell("section", 4, 0, 244, 40).tell("river", 0, 7).tell("pass", 1);
        x.row("ofSection", 0, 0, 0, 355, 0, 5, 35).due(45, "ofSection", 0, 9);
        x.row("ofSection", 1, 0, 0, 260, 0, 6, 34).due(50, "ofSection", 1, 9);
        x.row("ofSection", 2, 0, 0, 249, 0, 3, 44).due(5, "ofSection", 2, 9);
    }

    /** MUD of 100 in both, a CLOUD of 2 in 0 and none in 1, and an hour with such a RUN. */
    private static Trial withRun(int run) {
        Trial x = new Trial().tell("barrier", 0, 0).tell("section", 4, 0, 400, 100);
        x.tell("section", 4, 0, 400 - 4 * run, 104).tell("permit", 1, 4).tell("dredge", 1, 2, 0);
        return x.tell("dredge", 1, 2, NONE).tell("pass", 1).due(run, "ofSection", 0, 9);
    }

    private static void belowTen() {
        withRun(0).due(1, "ofSection", 0, 4).due(101, "ofSection", 0, 5);
        withRun(9).due(1, "ofSection", 0, 4).due(101, "ofSection", 0, 5);
        withRun(10).due(2, "ofSection", 0, 4).due(100, "ofSection", 0, 5);
        withRun(11).due(2, "ofSection", 0, 4).due(100, "ofSection", 0, 5);
    }

    private static void half() {
        int[][] rows = {{0, 0, 0}, {1, 0, 1}, {2, 1, 1}, {3, 1, 2}, {4, 2, 2}, {499, 249, 250}, {500, 250, 250}};
        for (int[] r : rows) {
            Trial x = new Trial().tell("section", 100, 0, 5000, 0).tell("river", 0, r[0]).tell("pass", 1);
            x.due(r[1], "ofSection", 0, 4).due(r[2], "ofSection", 0, 5).due(r[0], "sum", 7);
        }
        // hour by hour, until there is none
        Trial x = new Trial().tell("section", 100, 0, 5000, 0).tell("river", 0, 11).tell("pass", 1);
        x.tell("river", 0, 0);
        for (int cloud : new int[] {5, 2, 1, 0, 0}) {
            x.due(cloud, "ofSection", 0, 4).due(11 - cloud, "ofSection", 0, 5).tell("pass", 1);
        }
    }

    private static void aboveForty() {
        withRun(39).due(2, "ofSection", 0, 4).due(100, "ofSection", 0, 5).due(100, "ofSection", 1, 5);
        withRun(40).due(2, "ofSection", 0, 4).due(100, "ofSection", 0, 5).due(100, "ofSection", 1, 5);
        withRun(41).due(7, "ofSection", 0, 4).due(95, "ofSection", 0, 5).due(95, "ofSection", 1, 5);
    }

    private static void eighth() {
        withRun(47).due(7, "ofSection", 0, 4).due(95, "ofSection", 0, 5).due(5, "ofSection", 1, 4);
        withRun(48).due(8, "ofSection", 0, 4).due(94, "ofSection", 0, 5).due(6, "ofSection", 1, 4);
        withRun(99).due(14, "ofSection", 0, 4).due(88, "ofSection", 0, 5).due(12, "ofSection", 1, 4);
    }

    private static void allMud() {
        // a RUN of 100 lifts 12: of 0, 11, 12 and 13
        int[][] rows = {{0, 0, 0}, {11, 11, 0}, {12, 12, 0}, {13, 12, 1}};
        for (int[] r : rows) {
            Trial x = new Trial().tell("barrier", 0, 0).tell("section", 4, 0, 400, r[0]).tell("section", 4, 0, 0, r[0]);
            x.tell("pass", 1).due(100, "ofSection", 0, 9);
            x.due(r[1], "ofSection", 0, 4).due(r[2], "ofSection", 0, 5);
            x.due(r[1], "ofSection", 1, 4).due(r[2], "ofSection", 1, 5);
        }
    }
}
