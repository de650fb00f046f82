/** Promises 1 to 5, and 15: a new object, turns, the mean, surges, the river, and the sea of an hour. */
public final class SeaTest {
    public static void main(String[] args) {
        aNewObject();
        turns();
        wrongTurns();
        mean();
        surges();
        wrongSurges();
        river();
        pastHours();
        Check.end();
    }

    private static void aNewObject() {
        Saltwedge x = new Saltwedge();
        Check.due("new: now()", 0, x::now);
        Check.due("new: sea(0)", 50, () -> x.sea(0));
        Check.due("new: sea(2000)", 50, () -> x.sea(2000));
        Check.due("new: closures()", 0, x::closures);
        Check.due("new: intrusion(1)", 0, () -> x.intrusion(1));
        Check.index("new: ofSection(0, 0)", () -> x.ofSection(0, 0));
        Check.index("new: ofSectionAnew(0, 0)", () -> x.ofSectionAnew(0, 0));
        Check.index("new: ofIntake(0, 0)", () -> x.ofIntake(0, 0));
        Check.index("new: isClosed(0)", () -> x.isClosed(0) ? 1 : 0);
        Check.index("new: closure(0, 0)", () -> x.closure(0, 0));
        for (int what = 0; what < 10; what++) {
            final int w = what;
            Check.due("new: sum(" + w + ")", 0, () -> x.sum(w));
        }
        Check.due("new: the mean before", 50, () -> x.mean(50));
        Check.due("new: the river before", 0, () -> x.river(0, 0));
        Check.due("new: the mark before", Saltwedge.NONE, () -> x.barrier(0, 0));
        Check.due("new: the first turn", 0, () -> x.turn(2, 1, 0, 0));
        Check.due("new: the first section", 0, () -> x.section(1, 0, 0, 0));
    }

    private static void turns() {
        Saltwedge x = new Saltwedge();
        x.mean(0);
        Check.due("turn(7, 3, 10, 5)", 0, () -> x.turn(7, 3, 10, 5));
        // x is the remainder of h + 5 by 7: 5 6 0 1 2 3 4; rising by 10 x / 3, falling by 10 (7 - x) / 4
        int[] heights = {5, 2, 0, 3, 6, 10, 7, 5, 2, 0, 3};
        for (int h = 0; h < heights.length; h++) {
            final int hour = h;
            Check.due("turn of seven hours: sea(" + h + ")", heights[h], () -> x.sea(hour));
        }
        Check.due("turn(2, 1, 50, 1)", 1, () -> x.turn(2, 1, 50, 1));
        Check.due("two turns: sea(0)", 55, () -> x.sea(0));
        Check.due("two turns: sea(1)", 2, () -> x.sea(1));
        // 2000 and 5 leave 3 by 7; 2000 and 1 leave 1 by 2
        Check.due("two turns: sea(2000)", 60, () -> x.sea(2000));
        Check.due("turn(60, 59, 50, 59)", 2, () -> x.turn(60, 59, 50, 59));
        Check.due("three turns: sea(0)", 105, () -> x.sea(0));
        Check.due("turn(60, 1, 0, 0)", 3, () -> x.turn(60, 1, 0, 0));
        Check.due("turn(3, 1, 1, 0)", 4, () -> x.turn(3, 1, 1, 0));
        // the sixth: hour 30 is in the middle of it
        Check.due("turn(60, 30, 50, 0)", 5, () -> x.turn(60, 30, 50, 0));
        Check.state("a seventh turn", () -> x.turn(2, 1, 0, 0));
        Check.argument("a seventh turn that is wrong", () -> x.turn(1, 1, 0, 0));
        // 0 and 35 leave 0 by 7; 31 leaves 1 by 2; 89 leaves 29 by 60; 30 leaves 0 by 3
        Check.due("six turns: sea(30)", 0 + 50 + 24 + 0 + 0 + 50, () -> x.sea(30));
    }

    private static void wrongTurns() {
        Saltwedge x = new Saltwedge();
        int[][] wrong = {{1, 1, 0, 0}, {61, 1, 0, 0}, {2, 0, 0, 0}, {2, 2, 0, 0}, {60, 60, 0, 0}, {2, 1, -1, 0},
            {2, 1, 51, 0}, {2, 1, 0, -1}, {2, 1, 0, 60}, {0, 0, 0, 0}, {-5, -7, 0, 0},
            {Integer.MIN_VALUE, 1, 0, 0}, {Integer.MAX_VALUE, 1, 0, 0}, {2, Integer.MIN_VALUE, 0, 0}};
        for (int[] w : wrong) {
            Check.argument("turn(" + w[0] + ", " + w[1] + ", " + w[2] + ", " + w[3] + ")",
                    () -> x.turn(w[0], w[1], w[2], w[3]));
        }
        Check.due("no wrong turn was told", 0, () -> x.turn(60, 59, 50, 59));
        Check.due("its height", 100, () -> x.sea(0));
    }

    private static void mean() {
        Saltwedge x = new Saltwedge();
        Check.argument("mean(-1)", () -> x.mean(-1));
        Check.argument("mean(101)", () -> x.mean(101));
        Check.due("mean(100)", 50, () -> x.mean(100));
        Check.due("mean(0)", 100, () -> x.mean(0));
        Check.due("sea(7) by a mean of 0", 0, () -> x.sea(7));
        Check.due("mean(33)", 0, () -> x.mean(33));
        Check.due("sea(7) by a mean of 33", 33, () -> x.sea(7));
        Check.due("sea(0) by a mean of 33", 33, () -> x.sea(0));
    }

    private static void surges() {
        Saltwedge x = new Saltwedge();
        Check.due("surge(3, 5, 40)", 1, () -> x.surge(3, 5, 40));
        int[] heights = {50, 50, 50, 90, 90, 90, 50};
        for (int h = 0; h < heights.length; h++) {
            final int hour = h;
            Check.due("a surge: sea(" + h + ")", heights[h], () -> x.sea(hour));
        }
        Check.due("surge(5, 5, -50)", 2, () -> x.surge(5, 5, -50));
        Check.due("two surges: sea(4)", 90, () -> x.sea(4));
        Check.due("two surges: sea(5)", 40, () -> x.sea(5));
        for (int i = 3; i <= 20; i++) {
            final int count = i;
            Check.due("the surge " + i, count, () -> x.surge(2000, 2000, -50));
        }
        Check.due("a sea below 0", 50 - 18 * 50, () -> x.sea(2000));
        Check.due("sea(1999)", 50, () -> x.sea(1999));
        Check.state("a surge too many", () -> x.surge(9, 9, 1));
        Check.argument("a surge too many that is wrong", () -> x.surge(9, 9, 101));
        Check.due("none of them was told", 50, () -> x.sea(9));
        Saltwedge y = new Saltwedge();
        for (int i = 0; i < 20; i++) {
            y.surge(0, 2000, 100);
        }
        Check.due("a high sea", 2050, () -> y.sea(1234));
    }

    private static void wrongSurges() {
        Saltwedge x = new Saltwedge();
        int[][] wrong = {{-1, 5, 0}, {2001, 2001, 0}, {5, 4, 0}, {0, 2001, 0}, {0, 0, -51}, {0, 0, 101},
            {Integer.MIN_VALUE, Integer.MAX_VALUE, 0}};
        for (int[] w : wrong) {
            Check.argument("surge(" + w[0] + ", " + w[1] + ", " + w[2] + ")", () -> x.surge(w[0], w[1], w[2]));
        }
        x.pass(3);
        Check.argument("surge ahead of NOW", () -> x.surge(2, 9, 1));
        Check.due("surge from NOW", 1, () -> x.surge(3, 3, 1));
        Check.due("sea(3)", 51, () -> x.sea(3));
        Check.due("sea(2)", 50, () -> x.sea(2));
    }

    private static void river() {
        Saltwedge x = new Saltwedge();
        Check.argument("river(-1, 0)", () -> x.river(-1, 0));
        Check.argument("river(501, 0)", () -> x.river(501, 0));
        Check.argument("river(0, -1)", () -> x.river(0, -1));
        Check.argument("river(0, 501)", () -> x.river(0, 501));
        Check.due("river(500, 7)", 0, () -> x.river(500, 7));
        x.pass(1);
        Check.due("without sections no water comes", 0, () -> x.sum(2));
        Check.due("without sections no silt comes", 0, () -> x.sum(7));
        Check.due("river(9, 500)", 500, () -> x.river(9, 500));
        Check.due("river(0, 0)", 9, () -> x.river(0, 0));
        Check.due("silt without water", 0, () -> x.river(0, 10));
        Saltwedge y = new Saltwedge();
        y.mean(0);
        y.section(10, 0, 0, 0);
        y.section(10, 0, 0, 0);
        y.river(3, 10);
        y.pass(1);
        // the river comes ahead of the flow between the sections; the level is still 0, and half of the cloud settles
        Check.due("the river's water", 3, () -> y.ofSection(1, 0));
        Check.due("none of it below", 0, () -> y.ofSection(1, 2));
        Check.due("the cloud that is left", 5, () -> y.ofSection(1, 4));
        Check.due("the mud", 5, () -> y.ofSection(1, 5));
        Check.due("no cloud in the section 0", 0, () -> y.ofSection(0, 4));
        y.river(0, 1);
        y.pass(1);
        Check.due("silt without water comes", 3, () -> y.ofSection(1, 4));
        Check.due("and settles, rounded up", 8, () -> y.ofSection(1, 5));
        Check.due("sum(2)", 3, () -> y.sum(2));
        Check.due("sum(7)", 11, () -> y.sum(7));
    }

    private static void pastHours() {
        Saltwedge x = new Saltwedge();
        Check.argument("sea(-1)", () -> x.sea(-1));
        Check.argument("sea(2001)", () -> x.sea(2001));
        Check.due("an hour at 50", 1, () -> x.pass(1));
        x.turn(2, 1, 20, 0);
        Check.due("sea(0) stays", 50, () -> x.sea(0));
        Check.due("sea(1) has the turn", 70, () -> x.sea(1));
        Check.due("two hours more", 3, () -> x.pass(2));
        x.mean(10);
        x.surge(3, 4, 1);
        int[] heights = {50, 70, 50, 31, 11, 30};
        for (int h = 0; h < heights.length; h++) {
            final int hour = h;
            Check.due("what went by stays: sea(" + h + ")", heights[h], () -> x.sea(hour));
        }
        Check.due("sea() changes nothing", 3, x::now);
    }
}
