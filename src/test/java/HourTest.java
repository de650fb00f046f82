/** Promises 7, 13, 14 and 16: sections, what an hour does with them (B to F), and what is told of them. */
public final class HourTest {
    private static final int NOWHERE = Saltwedge.NONE;

    public static void main(String[] args) {
        sections();
        passing();
        seaComesIn();
        seaLeaves();
        flowUp();
        flowDown();
        creeping();
        mixing();
        lifting();
        leastWater();
        largeNumbers();
        Check.end();
    }

    private static void row(String name, Saltwedge x, int section, int... want) {
        for (int what = 0; what < want.length; what++) {
            final int w = what;
            Check.due(name + ": ofSection(" + section + ", " + what + ")", want[what], () -> x.ofSection(section, w));
            Check.due(name + ": ofSectionAnew(" + section + ", " + what + ")", want[what],
                    () -> x.ofSectionAnew(section, w));
        }
    }

    private static void sections() {
        Saltwedge x = new Saltwedge();
        int[][] wrong = {{0, 0, 0, 0}, {101, 0, 0, 0}, {1, -1, 0, 0}, {1, 10001, 0, 0}, {1, 0, -1, 0},
            {1, 0, 10001, 0}, {1, 0, 0, -1}, {1, 0, 0, 10001}, {Integer.MIN_VALUE, 0, 0, 0}};
        for (int[] w : wrong) {
            Check.argument("section(" + w[0] + ", " + w[1] + ", " + w[2] + ", " + w[3] + ")",
                    () -> x.section(w[0], w[1], w[2], w[3]));
        }
        Check.due("section(7, 15, 19, 20)", 0, () -> x.section(7, 15, 19, 20));
        // the bed is 20 / 7 = 2, the depth 34 / 7 = 4
        row("as told", x, 0, 15, 0, 19, 0, 0, 20, 6, 0, 0, 0);
        for (int i = 1; i < 8; i++) {
            final int number = i;
            Check.due("section " + i, number, () -> x.section(100, 10000, 10000, 10000));
        }
        row("the largest", x, 7, 10000, 0, 10000, 0, 0, 10000, 300, 0, 0, 0);
        Check.state("a ninth section", () -> x.section(1, 0, 0, 0));
        Check.argument("a ninth section that is wrong", () -> x.section(0, 0, 0, 0));
        Check.index("ofSection(8, 0)", () -> x.ofSection(8, 0));
        Check.index("ofSection(-1, 0)", () -> x.ofSection(-1, 0));
        Check.index("ofSection(8, 10)", () -> x.ofSection(8, 10));
        Check.argument("ofSection(0, -1)", () -> x.ofSection(0, -1));
        Check.argument("ofSection(0, 10)", () -> x.ofSection(0, 10));
        Saltwedge y = new Saltwedge();
        y.pass(1);
        Check.state("a section behind an hour", () -> y.section(1, 0, 0, 0));
        Check.argument("a wrong section behind an hour", () -> y.section(1, 0, 0, 10001));
        Check.index("no section was told", () -> y.ofSection(0, 0));
    }

    private static void passing() {
        Saltwedge x = new Saltwedge();
        Check.argument("pass(0)", () -> x.pass(0));
        Check.argument("pass(-1)", () -> x.pass(-1));
        Check.argument("pass(49)", () -> x.pass(49));
        Check.argument("pass(MAX)", () -> x.pass(Integer.MAX_VALUE));
        Check.argument("pass(MIN)", () -> x.pass(Integer.MIN_VALUE));
        Check.due("nothing went by", 0, x::now);
        for (int i = 1; i <= 20; i++) {
            final int hour = 48 * i;
            Check.due("pass(48)", hour, () -> x.pass(48));
        }
        Check.due("now()", 960, x::now);
        Check.state("pass(41) at 960", () -> x.pass(41));
        Check.argument("pass(49) at 960", () -> x.pass(49));
        Check.due("now() as before", 960, x::now);
        Check.due("pass(39)", 999, () -> x.pass(39));
        Check.state("pass(2) at 999", () -> x.pass(2));
        Check.due("pass(1)", 1000, () -> x.pass(1));
        Check.state("pass(1) at 1000", () -> x.pass(1));
        Check.due("now() at the end", 1000, x::now);
        Check.due("a surge at the end", 1, () -> x.surge(1000, 2000, 1));
        Check.due("sea(999)", 50, () -> x.sea(999));
        Check.due("sea(1000)", 51, () -> x.sea(1000));
    }

    private static void seaComesIn() {
        Saltwedge x = new Saltwedge();
        x.section(3, 4, 0, 0);
        // the level is 1, d is 49, 49 * 3 / 2 = 73
        x.pass(1);
        row("the sea comes in", x, 0, 4, 0, 73, 2190, 0, 0, 25, 0, 30, 0);
        // the level is 25, d is 25, 25 * 3 / 2 = 37
        x.pass(1);
        row("and again", x, 0, 4, 0, 110, 3300, 0, 0, 38, 0, 30, 0);
        Check.due("sum(0)", 110, () -> x.sum(0));
        Check.due("sum(4)", 3300, () -> x.sum(4));
        Check.due("sum(1)", 0, () -> x.sum(1));
        Saltwedge y = new Saltwedge();
        y.section(1, 20, 29, 0);
        y.pass(1);
        // d is 1, its half is 0
        row("a sea that is 1 above", y, 0, 20, 0, 29, 0);
        Saltwedge z = new Saltwedge();
        z.section(2, 0, 0, 100);
        z.pass(1);
        row("a sea as high as the bed", z, 0, 0, 0, 0, 0, 0, 100, 50, 0, 0, 0);
    }

    private static void seaLeaves() {
        Saltwedge x = new Saltwedge();
        x.mean(0);
        x.section(3, 100, 50, 0);
        x.section(100, 0, 0, 10000);
        x.river(0, 0);
        x.permit(1, 10);
        x.dredge(1, 10, 0);
        // 0: the level is 50, d is -50, 75 of 100 leave with 7 of the cloud of 10
        // then the level of 0 is 25, that of 1 is 99: none in UP; run 0, so 2 of 3 settle
        x.pass(1);
        row("down to the sea", x, 0, 25, 0, 50, 0, 1, 2, 25, 0, 0, 0);
        Check.due("sum(1)", 75, () -> x.sum(1));
        Check.due("sum(8)", 7, () -> x.sum(8));
        Check.due("sum(5)", 0, () -> x.sum(5));
        // d is -25, 37 would leave, but there are 25: the whole cloud goes with them
        x.pass(1);
        row("all of UP", x, 0, 0, 0, 50, 0, 0, 2, 16, 0, 0, 0);
        Check.due("sum(1)", 100, () -> x.sum(1));
        Check.due("sum(8)", 8, () -> x.sum(8));
        x.pass(1);
        row("none of LOW", x, 0, 0, 0, 50, 0, 0, 2, 16, 0, 0, 0);
        Saltwedge y = new Saltwedge();
        y.mean(0);
        y.section(1, 5, 0, 3);
        y.pass(1);
        // the level is 8: 4 of 5 leave
        row("the bed counts", y, 0, 1, 0, 0, 0, 0, 3, 4, 0, 0, 0);
        Saltwedge z = new Saltwedge();
        z.mean(0);
        z.section(1, 1, 0, 0);
        z.pass(1);
        row("a sea that is 1 below", z, 0, 1, 0, 0, 0);
    }

    private static void flowUp() {
        Saltwedge x = new Saltwedge();
        x.section(4, 0, 100, 0);
        x.section(7, 0, 0, 0);
        x.section(2, 0, 0, 0);
        // 0: level 25, d 25, 50 come in: WATER 150, SALT 1500, level 37
        // 0 to 1: d 37, 37 * 4 / 4 = 37 flow, SALT 1500 * 37 / 150 = 370; level of 1: 37 / 7 = 5
        // 1 to 2: d 5, 5 * 2 / 4 = 2 flow, SALT 370 * 2 / 37 = 20
        x.pass(1);
        row("up, 0", x, 0, 0, 0, 113, 1130, 0, 0, 28, 0, 10, 37);
        row("up, 1", x, 1, 0, 0, 35, 350, 0, 0, 5, 0, 10, 39);
        row("up, 2", x, 2, 0, 0, 2, 20, 0, 0, 1, 0, 10, 2);
        Saltwedge y = new Saltwedge();
        y.section(1, 100, 3, 0);
        y.section(1, 0, 0, 0);
        y.barrier(0, 0);
        // closed: 25 would flow, but LOW has 3
        y.pass(1);
        row("all of LOW, 0", y, 0, 100, 0, 0, 0, 0, 0, 100, 0, 0, 3);
        row("all of LOW, 1", y, 1, 0, 0, 3, 0, 0, 0, 3, 0, 0, 3);
    }

    private static void flowDown() {
        Saltwedge x = new Saltwedge();
        x.barrier(0, 0);
        x.section(10, 0, 100, 0);
        x.section(3, 45, 0, 90);
        x.permit(1, 30);
        x.dredge(1, 30, 0);
        x.river(5, 7);
        // 1: MUD 60, UP 50, CLOUD 7: level 20 + 16; 0: CLOUD 30, level 10; d is -26, 26 * 3 / 4 = 19 flow
        // with 7 * 19 / 50 = 2 of the cloud; the run is 19, so nothing settles
        x.pass(1);
        row("down, 0", x, 0, 19, 0, 100, 0, 32, 0, 11, 0, 0, 19);
        row("down, 1", x, 1, 31, 0, 0, 0, 5, 60, 30, 0, 0, 19);
        Saltwedge y = new Saltwedge();
        y.barrier(0, 0);
        y.section(2, 0, 0, 0);
        y.section(2, 6, 200, 0);
        y.pass(1);
        // 103 * 2 / 4 = 51 would flow, but UP has 6
        row("all of UP, 0", y, 0, 6, 0, 0, 0, 0, 0, 3, 0, 0, 6);
        row("all of UP, 1", y, 1, 0, 0, 200, 0, 0, 0, 100, 0, 0, 6);
    }

    private static void creeping() {
        Saltwedge x = new Saltwedge();
        x.section(10, 0, 0, 0);
        x.section(10, 250, 0, 0);
        // 0: 250 come in with 7500; levels 25 and 25: no flow; 30 is above 0: c is 250 / 8 = 31
        // LOW of 0: 219 and 7500 - 930; LOW of 1: 31 and 930; UP of 0: 31; UP of 1: 219
        x.pass(1);
        row("creeping, 0", x, 0, 31, 0, 219, 6570, 0, 0, 25, 0, 30, 0);
        row("creeping, 1", x, 1, 219, 0, 31, 930, 0, 0, 25, 0, 30, 0);
        // open, and the sea stands 25 above: 125 come in; the level is 37, 12 * 10 / 4 = 30 flow, of 344 with 10320
        // 30 is not above 30: nothing creeps; s is 30 * (31 / 4) - 0 by a run of 30
        x.pass(1);
        row("no creeping, 0", x, 0, 31, 210, 314, 9210, 0, 0, 34, 6, 29, 30);
        row("no creeping, 1", x, 1, 219, 450, 61, 1380, 0, 0, 28, 2, 22, 30);
        Saltwedge y = new Saltwedge();
        y.section(10, 0, 0, 0);
        y.section(10, 250, 0, 100);
        y.permit(1, 40);
        y.dredge(1, 40, NOWHERE);
        y.river(0, 20);
        // level of 1: 6 + 25; d is -6, 6 * 10 / 4 = 15 flow down with 20 * 15 / 250 = 1 of the cloud
        // c is the lesser of 250 and 235 by 8: 29, with 19 * 29 / 235 = 2 of the cloud
        y.pass(1);
        row("creeping behind a flow, 0", y, 0, 44, 0, 221, 6630, 3, 0, 26, 0, 30, 15);
        row("creeping behind a flow, 1", y, 1, 206, 0, 29, 870, 17, 60, 29, 0, 30, 15);
        Saltwedge z = new Saltwedge();
        z.section(1, 0, 0, 0);
        z.section(1, 7, 18, 0);
        // 25 come in; levels 25 and 25; c is 7 / 8 = 0
        z.pass(1);
        row("too little to creep, 0", z, 0, 0, 0, 25, 750, 0, 0, 25, 0, 30, 0);
        row("too little to creep, 1", z, 1, 7, 0, 18, 0, 0, 0, 25, 0, 0, 0);
    }

    private static void mixing() {
        Saltwedge x = new Saltwedge();
        x.section(8, 20, 0, 0);
        x.section(8, 0, 0, 0);
        // level 2, d 48: 192 come in with 5760; level 26: 52 flow with 1560; nothing in UP of 1
        // run 52: m of 0 is 20 / 4 = 5, s is 4200 * 5 / 140 = 150; m of 1 is 0; no mud to lift
        x.pass(1);
        row("mixing, 0", x, 0, 20, 150, 140, 4050, 0, 0, 20, 7, 28, 52);
        row("no UP to mix, 1", x, 1, 0, 0, 52, 1560, 0, 0, 6, 0, 30, 52);
        // 80 come in with 2400: level 30; that of 1 is 10: a run of 20, 600 of SALT flow, 30 is not above 30
        // 0: m is 40 / 4, s is 1800 * 10 / 60; 1: m is 20 / 4, s is 600 * 5 / 20
        Saltwedge y = twoOfFour(0);
        row("a run of 20, 0", y, 0, 40, 300, 60, 1500, 0, 0, 25, 7, 25, 20);
        row("a run of 20, 1", y, 1, 40, 150, 20, 450, 0, 0, 15, 3, 22, 20);
        Saltwedge z = twoOfFour(4);
        row("a run of 19, 0", z, 0, 40, 0, 61, 1830, 0, 0, 25, 0, 30, 19);
        row("a run of 19, 1", z, 1, 40, 0, 19, 570, 0, 4, 15, 0, 30, 19);
    }

    private static Saltwedge twoOfFour(int mud) {
        Saltwedge x = new Saltwedge();
        x.section(4, 40, 0, 0);
        x.section(4, 40, 0, mud);
        x.pass(1);
        return x;
    }

    private static void lifting() {
        // run 41 lifts 5; run 40 none; run 10 leaves the cloud; run 9 settles
        int[][] rows = {{41, 5, 95, 7}, {40, 0, 100, 2}, {48, 6, 94, 8}, {10, 0, 100, 2}, {9, 0, 101, 1}};
        for (int[] r : rows) {
            Saltwedge x = new Saltwedge();
            x.barrier(0, 0);
            x.section(4, 0, 400, 100);
            x.section(4, 0, 400 - 4 * r[0], 104);
            x.permit(1, 4);
            x.dredge(1, 2, 0);
            x.dredge(1, 2, NOWHERE);
            // the beds are as high as one another: the run is the difference of the depths
            x.pass(1);
            Check.due("run", r[0], () -> x.ofSection(0, 9));
            Check.due("run " + r[0] + ", mud", r[2], () -> x.ofSection(0, 5));
            Check.due("run " + r[0] + ", cloud", r[3], () -> x.ofSection(0, 4));
        }
        Saltwedge y = new Saltwedge();
        y.barrier(0, 0);
        y.section(4, 0, 400, 3);
        y.section(4, 0, 0, 2);
        y.pass(1);
        row("all mud is lifted, 0", y, 0, 0, 0, 300, 0, 3, 0, 75, 0, 0, 100);
        row("all mud is lifted, 1", y, 1, 0, 0, 100, 0, 2, 0, 25, 0, 0, 100);
    }

    private static void leastWater() {
        Saltwedge x = new Saltwedge();
        x.mean(0);
        x.section(1, 1, 9, 0);
        x.section(1, 0, 0, 10);
        x.permit(1, 7);
        x.dredge(1, 7, 0);
        // 5 would leave, UP has 1, with all of the cloud; then level 9 and 3: 1 of LOW flows
        x.pass(1);
        row("all of 1, 0", x, 0, 0, 0, 8, 0, 0, 0, 8, 0, 0, 1);
        row("all of 1, 1", x, 1, 0, 0, 1, 0, 0, 3, 4, 0, 0, 1);
        Check.due("sum(8)", 7, () -> x.sum(8));
        Saltwedge y = new Saltwedge();
        y.mean(3);
        y.section(1, 0, 0, 0);
        y.pass(1);
        row("the salinity of 1", y, 0, 0, 0, 1, 30, 0, 0, 1, 0, 30, 0);
        Saltwedge z = new Saltwedge();
        z.mean(82);
        z.section(4, 4, 300, 0);
        z.section(4, 0, 236, 0);
        // 12 come in with 360; level 79 and 59: 20 flow with 360 * 20 / 312; m is 1, s is 337 / 292
        z.pass(1);
        row("1 of SALT is mixed, 0", z, 0, 4, 1, 292, 336, 0, 0, 74, 0, 1, 20);
        row("1 of SALT is mixed, 1", z, 1, 0, 0, 256, 23, 0, 0, 64, 0, 0, 20);
    }

    private static void largeNumbers() {
        Saltwedge x = new Saltwedge();
        for (int i = 0; i < 8; i++) {
            x.section(100, 10000, 10000, 10000);
        }
        for (int i = 0; i < 20; i++) {
            x.surge(0, 2000, 100);
        }
        x.river(500, 500);
        for (int i = 0; i < 20; i++) {
            x.pass(48);
        }
        long water = 0;
        long salt = 0;
        long mud = 0;
        for (int k = 0; k < 8; k++) {
            water += x.ofSection(k, 0) + x.ofSection(k, 2);
            salt += x.ofSection(k, 1) + x.ofSection(k, 3);
            mud += x.ofSection(k, 4) + x.ofSection(k, 5);
            Check.dueTrue("a salinity of 30 at most, " + k, x.ofSection(k, 7) <= 30 && x.ofSection(k, 8) <= 30);
        }
        final long allWater = water;
        final long allSalt = salt;
        final long allMud = mud;
        Check.dueTrue("much came in", x.sum(0) > 1000000);
        Check.due("no water is lost", 160000 + x.sum(0) + x.sum(2) - x.sum(1), () -> allWater);
        Check.due("no salt is lost", 30 * x.sum(0) - x.sum(5), () -> allSalt);
        Check.due("no mud is lost", 80000 + x.sum(7) - x.sum(8), () -> allMud);
    }
}
