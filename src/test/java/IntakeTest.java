/** Promises 8 and 18: intakes (G), and what is told of them. */
public final class IntakeTest {
    public static void main(String[] args) {
        wrongIntakes();
        serving();
        stopping();
        sharing();
        salt();
        Check.end();
    }

    private static void row(String name, Saltwedge x, int intake, int... want) {
        for (int what = 0; what < want.length; what++) {
            final int w = what;
            Check.due(name + ": ofIntake(" + intake + ", " + what + ")", want[what], () -> x.ofIntake(intake, w));
        }
    }

    private static void wrongIntakes() {
        Saltwedge x = new Saltwedge();
        Check.index("without sections", () -> x.intake(0, 1, 0, 1, 0));
        x.section(1, 0, 0, 0);
        Check.index("intake at -1", () -> x.intake(-1, 1, 0, 1, 0));
        Check.index("intake at 1", () -> x.intake(1, 1, 0, 1, 0));
        Check.index("intake at 1, all wrong", () -> x.intake(1, 0, 31, 0, 501));
        int[][] wrong = {{0, 0, 1, 0}, {501, 0, 1, 0}, {1, -1, 1, 0}, {1, 31, 1, 0}, {1, 0, 0, 0}, {1, 0, 10001, 0},
            {1, 0, 1, -1}, {1, 0, 1, 501}};
        for (int[] w : wrong) {
            Check.argument("intake(0, " + w[0] + ", " + w[1] + ", " + w[2] + ", " + w[3] + ")",
                    () -> x.intake(0, w[0], w[1], w[2], w[3]));
        }
        Check.due("intake(0, 500, 30, 10000, 500)", 0, () -> x.intake(0, 500, 30, 10000, 500));
        for (int i = 1; i < 6; i++) {
            final int number = i;
            Check.due("intake " + i, number, () -> x.intake(0, 1, 0, 1, 0));
        }
        Check.state("a seventh intake", () -> x.intake(0, 1, 0, 1, 0));
        Check.argument("a seventh intake that is wrong", () -> x.intake(0, 0, 0, 1, 0));
        Check.index("a seventh intake nowhere", () -> x.intake(1, 1, 0, 1, 0));
        row("none of it served yet", x, 5, 0, 0, 0, 0, 0);
        Check.index("ofIntake(6, 0)", () -> x.ofIntake(6, 0));
        Check.index("ofIntake(-1, 0)", () -> x.ofIntake(-1, 0));
        Check.index("ofIntake(6, 5)", () -> x.ofIntake(6, 5));
        Check.argument("ofIntake(5, 5)", () -> x.ofIntake(5, 5));
        Check.argument("ofIntake(5, -1)", () -> x.ofIntake(5, -1));
    }

    private static void serving() {
        Saltwedge x = new Saltwedge();
        x.barrier(0, 0);
        x.section(1, 50, 0, 0);
        x.intake(0, 20, 0, 30, 7);
        x.pass(1);
        row("the rate", x, 0, 13, 20, 0, 0, 0);
        // room is 17 still
        x.pass(1);
        row("the room", x, 0, 23, 37, 0, 0, 0);
        // room is 7 still
        x.pass(1);
        row("the room again", x, 0, 23, 44, 0, 0, 0);
        Check.due("what is left of UP", 6, () -> x.ofSection(0, 0));
        Check.due("the same anew", 6, () -> x.ofSectionAnew(0, 0));
        x.pass(1);
        row("all of UP", x, 0, 22, 50, 0, 0, 0);
        x.pass(1);
        row("no water", x, 0, 15, 50, 0, 1, 1);
        x.pass(2);
        row("the use goes on", x, 0, 1, 50, 0, 1, 3);
        x.pass(1);
        row("and is lacking", x, 0, 0, 50, 6, 1, 4);
        x.pass(2);
        row("and more of it", x, 0, 0, 50, 20, 1, 6);
        x.river(3, 0);
        x.pass(1);
        row("the river comes", x, 0, 0, 53, 24, 0, 6);
        Check.due("sum(3)", 53, () -> x.sum(3));
        Check.due("sum(6)", 0, () -> x.sum(6));
    }

    /** UP of the section 0 is of salinity 7, as HourTest tells: 20 WATER and 150 SALT. */
    private static Saltwedge salty() {
        Saltwedge x = new Saltwedge();
        x.section(8, 20, 0, 0);
        x.section(8, 0, 0, 0);
        x.pass(1);
        x.barrier(0, 0);
        return x;
    }

    private static void stopping() {
        Saltwedge x = salty();
        Check.due("the salinity of UP", 7, () -> x.ofSection(0, 7));
        x.intake(0, 1, 5, 10, 2);
        x.intake(0, 1, 30, 10, 0);
        row("just told", x, 0, 0, 0, 0, 0, 0);
        x.pass(1);
        row("above the grain", x, 0, 0, 0, 2, 1, 1);
        row("below the grain", x, 1, 1, 1, 0, 0, 0);
        // levels 20 and 6: 28 flow of LOW, with 4050 * 28 / 140; m is 5, s is 3240 * 5 / 112 less 150 * 5 / 20
        // UP is 20 with 257 when the intakes come
        int[][] rows = {{11, 1, 20, 257}, {12, 0, 19, 245}};
        for (int[] r : rows) {
            Saltwedge y = salty();
            y.intake(0, 1, r[0], 1, 0);
            y.pass(1);
            Check.due("salinity 12, grain " + r[0], r[1], () -> y.ofIntake(0, 3));
            Check.due("UP, grain " + r[0], r[2], () -> y.ofSection(0, 0));
            Check.due("its SALT, grain " + r[0], r[3], () -> y.ofSection(0, 1));
        }
    }

    private static void sharing() {
        Saltwedge x = new Saltwedge();
        x.barrier(0, 0);
        x.section(1, 25, 0, 0);
        x.intake(0, 20, 0, 100, 0);
        x.intake(0, 20, 0, 100, 0);
        x.intake(0, 20, 0, 100, 4);
        x.pass(1);
        row("the first takes most", x, 0, 20, 20, 0, 0, 0);
        row("the second takes the rest", x, 1, 5, 5, 0, 0, 0);
        row("the third is stopped", x, 2, 0, 0, 4, 1, 1);
        Check.due("sum(3)", 25, () -> x.sum(3));
        Saltwedge y = new Saltwedge();
        y.barrier(0, 0);
        y.section(1, 9, 0, 9);
        y.river(0, 7);
        y.intake(0, 4, 0, 4, 4);
        y.pass(1);
        Check.due("WATER is taken", 5, () -> y.ofSection(0, 0));
        Check.due("but no CLOUD", 3, () -> y.ofSection(0, 4));
        Check.due("half of it settled", 13, () -> y.ofSection(0, 5));
        row("a full intake whose use empties it", y, 0, 0, 4, 0, 0, 0);
        Saltwedge z = new Saltwedge();
        z.barrier(0, 0);
        z.section(1, 10, 0, 0);
        z.section(1, 20, 0, 0);
        z.intake(1, 5, 0, 10, 0);
        // 10 * 1 / 4 flow down ahead
        z.pass(1);
        Check.due("UP of another section", 12, () -> z.ofSection(0, 0));
        Check.due("UP at the intake", 13, () -> z.ofSection(1, 0));
        Check.due("UP of another section anew", 12, () -> z.ofSectionAnew(0, 0));
        Check.due("UP at the intake anew", 13, () -> z.ofSectionAnew(1, 0));
        Saltwedge u = new Saltwedge();
        u.barrier(0, 0);
        u.section(1, 0, 0, 0);
        u.river(1, 0);
        u.intake(0, 5, 0, 10, 0);
        u.pass(1);
        row("1 of WATER is taken", u, 0, 1, 1, 0, 0, 0);
    }

    private static void salt() {
        Saltwedge x = new Saltwedge();
        x.section(8, 20, 0, 0);
        x.section(8, 0, 0, 0);
        x.intake(0, 7, 7, 100, 0);
        // UP has 20 and 150 behind E: 150 * 7 / 20 = 52
        x.pass(1);
        Check.due("UP", 13, () -> x.ofSection(0, 0));
        Check.due("its SALT", 98, () -> x.ofSection(0, 1));
        Check.due("sum(6)", 52, () -> x.sum(6));
        Check.due("the same anew", 98, () -> x.ofSectionAnew(0, 1));
        Saltwedge y = new Saltwedge();
        y.section(8, 20, 0, 0);
        y.section(8, 0, 0, 0);
        y.intake(0, 7, 6, 100, 0);
        y.pass(1);
        Check.due("7 is above 6", 1, () -> y.ofIntake(0, 3));
        Check.due("UP as it was", 20, () -> y.ofSection(0, 0));
    }
}
