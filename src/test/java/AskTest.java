/** Promises 17 and 22 to 24: the sections anew, how far salt comes, windows for keels, and the sums. */
public final class AskTest {
    public static void main(String[] args) {
        anew();
        muchTold();
        intrusion();
        windows();
        wrongWindows();
        sums();
        Check.end();
    }

    private static void anew() {
        Saltwedge x = new Saltwedge();
        Check.index("without sections", () -> x.ofSectionAnew(0, 10));
        x.section(5, 100, 100, 80);
        x.section(3, 60, 20, 90);
        Check.index("ofSectionAnew(2, 0)", () -> x.ofSectionAnew(2, 0));
        Check.index("ofSectionAnew(-1, 0)", () -> x.ofSectionAnew(-1, 0));
        Check.argument("ofSectionAnew(0, -1)", () -> x.ofSectionAnew(0, -1));
        Check.argument("ofSectionAnew(1, 10)", () -> x.ofSectionAnew(1, 10));
        bothSame("no hour went by", x);
        x.pass(1);
        bothSame("one hour", x);
        x.turn(12, 4, 40, 3);
        bothSame("a turn was told", x);
        x.pass(3);
        x.river(30, 9);
        x.surge(5, 8, 60);
        x.barrier(100, 2);
        x.pass(3);
        x.surge(7, 9, -20);
        x.mean(20);
        x.intake(1, 5, 20, 50, 4);
        x.pass(5);
        x.permit(0, 40);
        x.dredge(0, 10, 1);
        bothSame("dredged behind the last hour", x);
        x.pass(2);
        x.permit(0, 20);
        x.dredge(0, 5, Saltwedge.NONE);
        x.barrier(Saltwedge.NONE, 0);
        x.pass(48);
        bothSame("at the end", x);
        bothSame("and once more", x);
        Check.due("the hour is as before", 62, x::now);
        Check.due("the sea of an hour that went by is as before", 50, () -> x.sea(0));
        Check.due("the permit is as before", 15, () -> x.permit(0, 0));
    }

    private static void muchTold() {
        Saltwedge x = new Saltwedge();
        x.section(1, 0, 0, 0);
        for (int i = 0; i < 508; i++) {
            x.river(9, 2);
        }
        x.river(5, 8);
        x.pass(1);
        Check.due("the 512th call", 5, () -> x.ofSectionAnew(0, 0));
        Saltwedge y = new Saltwedge();
        y.section(1, 0, 0, 7);
        for (int i = 0; i < 508; i++) {
            y.permit(0, i);
        }
        y.permit(0, 5);
        y.dredge(0, 4, Saltwedge.NONE);
        Check.due("dredged by the 511th call", 3, () -> y.ofSectionAnew(0, 5));
    }

    private static void bothSame(String name, Saltwedge x) {
        for (int k = 0; k < 2; k++) {
            for (int what = 0; what < 10; what++) {
                final int section = k;
                final int w = what;
                Check.due(name + ": ofSectionAnew(" + k + ", " + what + ")", x.ofSection(k, what),
                        () -> x.ofSectionAnew(section, w));
            }
        }
    }

    private static void intrusion() {
        Saltwedge x = new Saltwedge();
        Check.argument("intrusion(0)", () -> x.intrusion(0));
        Check.argument("intrusion(-1)", () -> x.intrusion(-1));
        Check.argument("intrusion(31)", () -> x.intrusion(31));
        Check.due("without sections", 0, () -> x.intrusion(1));
        x.section(8, 20, 0, 0);
        x.section(8, 0, 0, 0);
        x.section(8, 0, 800, 0);
        x.section(8, 0, 0, 0);
        Check.due("no hour went by", 0, () -> x.intrusion(1));
        x.pass(1);
        Check.due("LOW of 0", 28, () -> x.ofSection(0, 8));
        Check.due("LOW of 1", 30, () -> x.ofSection(1, 8));
        Check.due("LOW of 2", 0, () -> x.ofSection(2, 8));
        Check.due("intrusion(1)", 2, () -> x.intrusion(1));
        Check.due("intrusion(28)", 2, () -> x.intrusion(28));
        Check.due("intrusion(29): 1 counts for nothing without 0", 0, () -> x.intrusion(29));
        Check.due("intrusion(30)", 0, () -> x.intrusion(30));
        Saltwedge y = new Saltwedge();
        y.section(1, 0, 0, 0);
        y.pass(1);
        Check.due("all sections", 1, () -> y.intrusion(30));
        Saltwedge z = new Saltwedge();
        for (int i = 0; i < 8; i++) {
            z.section(10, 0, 0, 0);
        }
        z.pass(48);
        Check.due("all of eight sections", 8, () -> z.intrusion(30));
    }

    private static void windows() {
        Saltwedge x = new Saltwedge();
        x.section(10, 0, 0, 105);
        // the bed is 10, the sea 50
        Check.due("window(40, 24)", 0, () -> x.window(40, 24));
        Check.due("window(41, 1)", -1, () -> x.window(41, 1));
        x.surge(5, 7, 10);
        Check.due("window(50, 1)", 5, () -> x.window(50, 1));
        Check.due("window(50, 3)", 5, () -> x.window(50, 3));
        Check.due("window(50, 4)", -1, () -> x.window(50, 4));
        Check.due("window(51, 1)", -1, () -> x.window(51, 1));
        x.surge(9, 12, 10);
        Check.due("window(50, 4) by another surge", 9, () -> x.window(50, 4));
        x.surge(100, 123, 20);
        Check.due("100 hours later", 100, () -> x.window(60, 24));
        x.surge(100, 100, -20);
        Check.due("101 hours later", -1, () -> x.window(60, 23));
        Check.due("one hour, 101 later", -1, () -> x.window(60, 1));
        x.pass(1);
        Check.due("from the hour 1 on", 101, () -> x.window(60, 23));
        Check.due("no more hours", -1, () -> x.window(60, 24));
        Check.due("window(40, 1) begins with NOW", 1, () -> x.window(40, 1));
        x.permit(0, 10);
        Check.due("ahead of dredging", -1, () -> x.window(61, 1));
        x.dredge(0, 6, Saltwedge.NONE);
        Check.due("the bed as it is now", 101, () -> x.window(61, 1));
        x.pass(5);
        Check.due("within a surge", 6, () -> x.window(51, 2));
        Check.due("within a surge that ends", 9, () -> x.window(51, 3));
    }

    private static void wrongWindows() {
        Saltwedge x = new Saltwedge();
        int[][] wrong = {{0, 1}, {201, 1}, {1, 0}, {1, 25}, {-1, -1}, {Integer.MAX_VALUE, 1}, {1, Integer.MIN_VALUE}};
        for (int[] w : wrong) {
            Check.argument("window(" + w[0] + ", " + w[1] + ") without sections", () -> x.window(w[0], w[1]));
        }
        Check.state("window(1, 1) without sections", () -> x.window(1, 1));
        x.section(1, 0, 0, 10000);
        Check.due("a high bed", -1, () -> x.window(1, 1));
        for (int[] w : wrong) {
            Check.argument("window(" + w[0] + ", " + w[1] + ")", () -> x.window(w[0], w[1]));
        }
        for (int i = 0; i < 4; i++) {
            x.surge(0, 2000, 100);
        }
        Saltwedge y = new Saltwedge();
        y.section(1, 0, 0, 0);
        y.mean(100);
        y.surge(0, 2000, 100);
        Check.due("window(200, 24)", 0, () -> y.window(200, 24));
        Saltwedge z = new Saltwedge();
        z.section(1, 0, 0, 0);
        z.surge(0, 1000, 1);
        for (int i = 0; i < 20; i++) {
            z.pass(48);
        }
        z.pass(40);
        Check.due("at the last hour", 1000, () -> z.window(51, 1));
        Check.due("at the last hour, two", -1, () -> z.window(51, 2));
        z.surge(1100, 1123, 5);
        Check.due("100 behind the last hour", 1100, () -> z.window(55, 24));
    }

    private static void sums() {
        Saltwedge x = new Saltwedge();
        Check.argument("sum(-1)", () -> x.sum(-1));
        Check.argument("sum(10)", () -> x.sum(10));
        x.section(10, 100, 100, 0);
        x.river(20, 6);
        x.intake(0, 5, 30, 100, 1);
        // level 20: 150 come in; UP 120, LOW 250 with 4500; CLOUD 6 settles to 3; 5 are taken
        x.pass(1);
        x.mean(0);
        // level 36: 180 would leave, UP has 115: all of it with the CLOUD of 3; the river, 6 settle to 3; 5 are taken
        x.pass(1);
        x.permit(0, 6);
        x.dredge(0, 6, Saltwedge.NONE);
        long[] want = {150, 115, 40, 10, 4500, 0, 0, 12, 3, 6};
        for (int what = 0; what < 10; what++) {
            final int w = what;
            Check.due("sum(" + w + ")", want[w], () -> x.sum(w));
        }
        Saltwedge y = new Saltwedge();
        y.section(8, 20, 0, 0);
        y.section(8, 0, 0, 0);
        // behind the hour: UP 20 with 150, LOW 140 with 4050; level 20
        y.pass(1);
        y.mean(17);
        // d is -3: 12 leave with 150 * 12 / 20 = 90
        y.pass(1);
        Check.due("SALT to the sea", 90, () -> y.sum(5));
        Check.due("WATER to the sea", 12, () -> y.sum(1));
    }
}
