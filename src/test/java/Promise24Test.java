public final class Promise24Test {
    private static final int SEA = Saltwedge.NONE;

    public static void main(String[] args) {
        Check.under("Promise 24: sum");
        Check.sentence("Returns a sum.", Promise24Test::sums);
        Check.sentence("`what`: 0 the WATER that came from the sea, 1 that went to it,", Promise24Test::seaWater);
        Check.sentence("2 that the river brought,", Promise24Test::riverWater);
        Check.sentence("3 that INTAKES took,", Promise24Test::intakeWater);
        Check.sentence("4 the SALT that came from the sea, 5 that went to it,", Promise24Test::seaSalt);
        Check.sentence("6 that INTAKES took,", Promise24Test::intakeSalt);
        Check.sentence("7 the silt that the river brought,", Promise24Test::silt);
        Check.sentence("8 the CLOUD that went to the sea,", Promise24Test::cloud);
        Check.sentence("9 the MUD that was dredged to it", Promise24Test::dredged);
        Check.sentence("Throws `IllegalArgumentException` if what is out of range", Promise24Test::outOfRange);
        Check.end();
    }

    private static Trial all(Trial x, long... wants) {
        for (int what = 0; what < wants.length; what++) {
            x.due(wants[what], "sum", what);
        }
        return x;
    }

    private static void sums() {
        all(new Trial(), 0, 0, 0, 0, 0, 0, 0, 0, 0, 0).tell("pass", 9).due(0, "sum", 0);
        // LEVEL 20: 150 come; UP 120, LOW 250; a CLOUD of 6 settles to 3; 5 are taken
        Trial x = new Trial().tell("section", 10, 100, 100, 0).tell("river", 20, 6).tell("intake", 0, 5, 30, 100, 1);
        all(x.tell("pass", 1), 150, 0, 20, 5, 4500, 0, 0, 6, 0, 0);
        // LEVEL 36: 180 would leave, UP has 115, with all CLOUD; the river, of whose 6 3 settle; 5 are taken
        x.tell("mean", 0).tell("pass", 1).tell("permit", 0, 6).tell("dredge", 0, 6, SEA);
        all(x, 150, 115, 40, 10, 4500, 0, 0, 12, 3, 6);
        // asking changes nothing, nor does letting all go by once more
        x.tell("ofSectionAnew", 0, 0);
        all(x, 150, 115, 40, 10, 4500, 0, 0, 12, 3, 6);
        balanced(ExceptionsTest.full().tell("dredge", 1, 5, SEA).hours(995), 8 * 170 + 28, 8 * 400);
        // the highest SEA, all the WATER and the MUD that can be told
        Trial most = new Trial().tell("river", 500, 500).tell("mean", 100);
        for (int k = 0; k < 8; k++) {
            most.tell("section", 100, 10000, 10000, 10000);
        }
        for (int i = 0; i < 20; i++) {
            most.tell("surge", 0, 2000, 100);
        }
        balanced(most.hours(1000), 8 * 20000, 8 * 10000);
    }

    /** What is in all of eight SECTIONS is what was in them at first and what came, less what went. */
    private static void balanced(Trial x, long waterAtFirst, long mudAtFirst) {
        long[] in = new long[6];
        for (int k = 0; k < 8; k++) {
            for (int what = 0; what < 6; what++) {
                in[what] += Long.parseLong(x.ask("ofSection", k, what));
            }
        }
        long[] sum = new long[10];
        for (int what = 0; what < 10; what++) {
            sum[what] = Long.parseLong(x.ask("sum", what));
        }
        Check.due("WATER", waterAtFirst + sum[0] - sum[1] + sum[2] - sum[3], () -> in[0] + in[2]);
        Check.due("SALT", sum[4] - sum[5] - sum[6], () -> in[1] + in[3]);
        Check.due("MUD", mudAtFirst + sum[7] - sum[8] - sum[9], () -> in[4] + in[5]);
        Check.due("SALT from the sea", 30 * sum[0], () -> sum[4]);
    }

    private static void seaWater() {
        Trial x = new Trial().tell("section", 1, 30, 0, 0).tell("pass", 1).due(10, "sum", 0).due(0, "sum", 1);
        // LEVEL 40: 5 more; then LEVEL 45 by a SEA of 20: 12, then LEVEL 33: 6, each of the 30 in UP
        x.tell("pass", 1).due(15, "sum", 0).due(0, "sum", 1).tell("mean", 20).tell("pass", 1).due(12, "sum", 1);
        x.tell("pass", 1).due(18, "sum", 1).due(15, "sum", 0);
        // no more than UP has, nothing behind a barrier
        new Trial().tell("section", 1, 3, 97, 0).tell("pass", 1).due(3, "sum", 1).tell("pass", 1).due(3, "sum", 1);
        Trial shut = new Trial().tell("section", 1, 30, 0, 0).tell("barrier", 0, 0).tell("pass", 5).due(0, "sum", 0);
        shut.due(0, "sum", 1);
    }

    private static void riverWater() {
        Trial x = new Trial().tell("section", 1, 0, 0, 0).tell("river", 7, 0).due(0, "sum", 2).tell("pass", 3)
                .due(21, "sum", 2);
        x.tell("river", 1, 9).tell("pass", 1).due(22, "sum", 2);
        new Trial().tell("river", 7, 0).tell("pass", 3).due(0, "sum", 2);
    }

    private static void intakeWater() {
        Trial x = new Trial().tell("barrier", 0, 0).tell("section", 1, 20, 0, 0).tell("intake", 0, 3, 0, 9, 3);
        x.tell("intake", 0, 4, 0, 5, 0).tell("pass", 1).due(7, "sum", 3).tell("pass", 1).due(11, "sum", 3);
        x.tell("pass", 9).due(20, "sum", 3).due(0, "sum", 6);
    }

    private static void seaSalt() {
        new Trial().tell("section", 1, 0, 0, 0).tell("pass", 2).due(37, "sum", 0).due(1110, "sum", 4).due(0, "sum", 5);
        // 12 of 20 go with 90 of 150; then with all that is left
        Trial x = SectionsTest.mixed().due(5760, "sum", 4).tell("mean", 17).tell("pass", 1).due(90, "sum", 5);
        x.due(12, "sum", 1).due(5760, "sum", 4);
        SectionsTest.mixed().tell("mean", 0).tell("pass", 1).due(150, "sum", 5).due(20, "sum", 1);
        // fresh WATER takes none
        new Trial().tell("section", 1, 80, 0, 0).tell("pass", 1).due(15, "sum", 1).due(0, "sum", 5);
    }

    private static void intakeSalt() {
        Trial x = new Trial().tell("section", 8, 20, 0, 0).tell("section", 8, 0, 0, 0).tell("intake", 0, 7, 7, 100, 0);
        x.tell("intake", 0, 2, 7, 9, 0).tell("pass", 1);
        // 150 * 7 / 20, and 98 * 2 / 13
        x.due(67, "sum", 6).due(9, "sum", 3).due(0, "sum", 5);
    }

    private static void silt() {
        Trial x = new Trial().tell("section", 1, 0, 0, 0).tell("river", 0, 7).due(0, "sum", 7).tell("pass", 3)
                .due(21, "sum", 7);
        x.tell("river", 9, 1).tell("pass", 1).due(22, "sum", 7);
        new Trial().tell("river", 0, 7).tell("pass", 3).due(0, "sum", 7);
    }

    private static void cloud() {
        // 25 of 50 with 4 of 9; then all of 25 with all of the 2 that are left
        Trial x = new Trial().tell("section", 1, 50, 50, 0).tell("section", 1, 0, 0, 120).tell("permit", 1, 9);
        x.tell("dredge", 1, 9, 0).due(0, "sum", 8).tell("pass", 1).due(4, "sum", 8).tell("mean", 0).tell("pass", 1);
        x.due(6, "sum", 8).due(0, "sum", 9);
    }

    private static void dredged() {
        Trial x = new Trial().tell("section", 1, 0, 0, 100).tell("section", 1, 0, 0, 50).tell("permit", 0, 60);
        x.tell("permit", 1, 50).tell("dredge", 0, 20, 1).due(0, "sum", 9).tell("dredge", 0, 30, SEA).due(30, "sum", 9);
        x.tell("dredge", 1, 50, SEA).due(80, "sum", 9).state("dredge", 0, 11, SEA).due(80, "sum", 9).due(0, "sum", 8);
    }

    private static void outOfRange() {
        Trial.range(Trial::new, 0, 0, 9, "sum", 5);
        Trial.range(ExceptionsTest::full, 0, 0, 9, "sum", 5);
    }
}
