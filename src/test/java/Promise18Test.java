public final class Promise18Test {
    public static void main(String[] args) {
        Check.under("Promise 18: ofIntake");
        Check.sentence("Tells of an INTAKE.", Promise18Test::tells);
        Check.sentence("`what`: 0 what it holds, 1 the WATER that it took in all, 2 what was lacking in all,",
                Promise18Test::inAll);
        Check.sentence("3 whether it was STOPPED in the hour that went by last (1 or 0; 0 if none did since it was"
                + " told),", Promise18Test::stoppedLast);
        Check.sentence("4 in how many hours it was STOPPED", Promise18Test::stoppedHours);
        Check.sentence("Throws `IndexOutOfBoundsException` as told", Promise18Test::noSuch);
        Check.sentence("Throws `IllegalArgumentException` if what is out of range", Promise18Test::outOfRange);
        Check.end();
    }

    private static void tells() {
        Trial x = Trial.fresh(9).tell("intake", 0, 2, 0, 9, 1).tell("intake", 0, 3, 0, 9, 0).tell("pass", 1);
        x.row("ofIntake", 0, 1, 2, 0, 0, 0).row("ofIntake", 1, 3, 3, 0, 0, 0).row("ofIntake", 0, 1, 2, 0, 0, 0);
    }

    private static void inAll() {
        // 5 and 5 and 2 are taken; 6 go to the town, or what there is
        Trial x = Trial.fresh(12).tell("intake", 0, 5, 0, 9, 6).tell("pass", 1).row("ofIntake", 0, 0, 5, 1);
        x.tell("pass", 1).row("ofIntake", 0, 0, 10, 2).tell("pass", 1).row("ofIntake", 0, 0, 12, 6);
        x.tell("pass", 1).row("ofIntake", 0, 0, 12, 12);
        Trial.fresh(12).tell("intake", 0, 5, 0, 9, 2).tell("pass", 2).row("ofIntake", 0, 6, 10, 0).tell("pass", 4)
                .row("ofIntake", 0, 0, 12, 0).tell("pass", 1).row("ofIntake", 0, 0, 12, 2);
        new Trial().tell("barrier", 0, 0).tell("section", 100, 0, 0, 0).tell("river", 500, 0)
                .tell("intake", 0, 500, 0, 10000, 500).hours(1000).row("ofIntake", 0, 0, 500000, 0, 0, 0);
    }

    private static void stoppedLast() {
        // none went by since it was told, at first and later, when another one is STOPPED
        Trial x = Trial.fresh(0).tell("intake", 0, 1, 0, 9, 0).due(0, "ofIntake", 0, 3).tell("pass", 1)
                .due(1, "ofIntake", 0, 3);
        x.tell("intake", 0, 1, 0, 9, 0).due(0, "ofIntake", 1, 3).tell("pass", 1).due(1, "ofIntake", 1, 3);
        // the last hour alone
        x.tell("river", 9, 0).tell("pass", 1).due(0, "ofIntake", 0, 3).due(0, "ofIntake", 1, 3);
        x.tell("river", 0, 0).tell("pass", 9).due(1, "ofIntake", 0, 3);
        // it is not STOPPED by a room that is full
        Trial.fresh(9).tell("intake", 0, 1, 0, 1, 0).tell("pass", 3).due(0, "ofIntake", 0, 3);
    }

    private static void stoppedHours() {
        Trial x = Trial.fresh(0).tell("intake", 0, 1, 0, 9, 0).due(0, "ofIntake", 0, 4).tell("pass", 1)
                .due(1, "ofIntake", 0, 4);
        x.tell("pass", 2).due(3, "ofIntake", 0, 4).tell("river", 1, 0).tell("pass", 5).due(3, "ofIntake", 0, 4);
        x.tell("river", 0, 0).tell("pass", 1).due(4, "ofIntake", 0, 4);
        // hours ahead of its being told do not count
        Trial.fresh(0).tell("pass", 5).tell("intake", 0, 1, 0, 9, 0).due(0, "ofIntake", 0, 4).tell("pass", 1)
                .due(1, "ofIntake", 0, 4);
        Trial.fresh(0).tell("intake", 0, 1, 0, 9, 0).hours(1000).due(1000, "ofIntake", 0, 4);
        // by salt: 7 is above 6 in the first hour, 12 and more in those behind it
        Trial y = new Trial().tell("section", 8, 20, 0, 0).tell("section", 8, 0, 0, 0).tell("intake", 0, 1, 6, 9, 0);
        y.tell("pass", 1).row("ofIntake", 0, 0, 0, 0, 1, 1).tell("barrier", 0, 0).tell("pass", 1)
                .due(2, "ofIntake", 0, 4);
    }

    private static void noSuch() {
        Trial.numbers(() -> Trial.fresh(9).tell("intake", 0, 1, 0, 1, 0).tell("intake", 0, 1, 0, 1, 0), 0, 2,
                "ofIntake", 0, 0);
        Trial.numbers(ExceptionsTest::full, 0, 6, "ofIntake", 0, 4);
        new Trial().index("ofIntake", 0, 0);
        Trial.fresh(9).index("ofIntake", 0, 0).index("ofIntake", 0, 5).index("ofIntake", -1, -1);
    }

    private static void outOfRange() {
        Trial.range(ExceptionsTest::full, 1, 0, 4, "ofIntake", 0, 2);
        Trial.range(ExceptionsTest::full, 1, 0, 4, "ofIntake", 5, 2);
    }
}
