/** What stands under "The sea": hours, turns, the mean, surges, and the sea of an hour. */
public final class TheSeaTest {
    public static void main(String[] args) {
        Check.under("The sea");
        Check.sentence("Hours are counted from 0; NOW is the hour that goes by next, 0 at first.", TheSeaTest::hours);
        Check.sentence("TURNS are numbered from 0, at most 6:", Promise02Test::mostTurns);
        Check.sentence("a TURN has a period p, 2 to 60 hours, a rise r, 1 to p less 1, a range g, 0 to 50,"
                + " and a phase f, 0 to 59.", TheSeaTest::rangesOfTurns);
        Check.sentence("In the hour h, with x being the remainder of h and f, together, by p,",
                TheSeaTest::remainders);
        Check.sentence("its height is g times x, divided by r, if x is less than r,", TheSeaTest::rising);
        Check.sentence("otherwise g times (p less x), divided by (p less r),", TheSeaTest::falling);
        Check.sentence("both rounded down.", TheSeaTest::roundedHeights);
        Check.sentence("The mean is 0 to 100, 50 at first.", TheSeaTest::mean);
        Check.sentence("(TURNS and the mean hold for all hours from NOW on.)", TheSeaTest::fromNowOn);
        Check.sentence("Surges, at most 20, are told for hours from one to another one, both with them,"
                + " with a height, -50 to 100.", TheSeaTest::surges);
        Check.sentence("The SEA of an hour is the mean, the heights of all TURNS and those of all surges that have"
                + " that hour, together;", TheSeaTest::together);
        Check.sentence("for an hour that went by it stays as it was then, for others it is by what is told now.",
                TheSeaTest::pastAndComing);
        Check.end();
    }

    private static Trial flat() {
        return new Trial().tell("mean", 0);
    }

    private static void hours() {
        new Trial().due(0, "now").tell("barrier", 49, 0).due(1, "pass", 1).row("closure", 0, 0, 0);
        // the hour 3 goes by next behind the hours 0 to 2
        new Trial().due(3, "pass", 3).due(3, "now").tell("mean", 80).due(4, "pass", 1).tell("mean", 20)
                .seas(0, 50, 50, 50, 80, 20);
    }

    private static void rangesOfTurns() {
        Promise02Test.period();
        Promise02Test.rise();
        Promise02Test.rangeOfHeight();
        Promise02Test.phase();
    }

    private static void remainders() {
        // x: 5 6 0 1 2 3 4 5 6 0; rising by 10 x / 3, falling by 10 (7 - x) / 4
        flat().tell("turn", 7, 3, 10, 5).seas(0, 5, 2, 0, 3, 6, 10, 7, 5, 2, 0, 3);
        // the phase is the period itself, then more than it: 59 leaves 1 by 2
        flat().tell("turn", 5, 4, 4, 5).seas(0, 0, 1, 2, 3, 4, 0, 1);
        flat().tell("turn", 2, 1, 9, 59).seas(0, 9, 0, 9);
        // 59 and 0 leave 59 by 60, 59 and 1 leave 0, 59 and 2000 leave 19
        Trial x = flat().tell("turn", 60, 30, 30, 59).seas(0, 1, 0, 1, 2);
        x.seas(58, 3, 2, 1, 0, 1).due(19, "sea", 2000).due(18, "sea", 1999);
    }

    private static void rising() {
        flat().tell("turn", 10, 4, 20, 0).seas(0, 0, 5, 10, 15).seas(10, 0, 5, 10, 15);
        // the longest rise: all but one hour
        flat().tell("turn", 60, 59, 50, 0).seas(0, 0).seas(57, 48, 49).seas(60, 0);
    }

    private static void falling() {
        flat().tell("turn", 10, 4, 20, 0).seas(4, 20, 16, 13, 10, 6, 3, 0);
        // the shortest rise: falling from the hour 1 on
        flat().tell("turn", 60, 1, 50, 0).seas(0, 0, 50, 49).seas(58, 1, 0, 0, 50);
        flat().tell("turn", 60, 59, 50, 0).seas(59, 50, 0);
        flat().tell("turn", 2, 1, 50, 0).seas(0, 0, 50, 0, 50);
    }

    private static void roundedHeights() {
        // 20 * 2 / 3 is 13 and some, 20 / 3 * 2 would be 12; falling as well
        flat().tell("turn", 6, 3, 20, 0).seas(0, 0, 6, 13, 20, 13, 6, 0);
        flat().tell("turn", 60, 30, 29, 0).seas(1, 0, 1).seas(29, 28, 29, 28).seas(59, 0);
        // each height by itself: twice a half is nothing
        flat().tell("turn", 4, 2, 1, 0).tell("turn", 4, 2, 1, 0).seas(0, 0, 0, 2, 0, 0);
    }

    private static void mean() {
        new Trial().seas(0, 50).due(50, "sea", 2000).due(50, "mean", 100).seas(0, 100).due(100, "mean", 0).seas(0, 0);
        Trial.range(Trial::new, 0, 0, 100, "mean", 7);
    }

    private static void fromNowOn() {
        Trial x = new Trial().tell("pass", 3).tell("mean", 10).tell("turn", 2, 1, 20, 0);
        x.seas(0, 50, 50, 50, 30, 10, 30, 10).seas(1000, 10, 30).seas(1999, 30, 10);
        x.tell("pass", 1).tell("mean", 0).seas(2, 50, 30, 0, 20, 0);
    }

    private static void surges() {
        new Trial().tell("surge", 3, 5, 40).seas(0, 50, 50, 50, 90, 90, 90, 50, 50);
        new Trial().tell("surge", 0, 0, 100).tell("surge", 7, 7, -50).seas(0, 150, 50).seas(6, 50, 0, 50);
        new Trial().tell("surge", 1999, 2000, 1).seas(1998, 50, 51, 51);
        Promise04Test.mostSurges();
        Promise04Test.height();
    }

    private static void together() {
        Trial x = new Trial().tell("mean", 10).tell("turn", 2, 1, 20, 0).tell("turn", 4, 2, 10, 1);
        x.seas(0, 15, 40, 15, 30, 15);
        x.tell("surge", 1, 2, 100).tell("surge", 2, 3, -50).seas(0, 15, 140, 65, -20, 15);
        // the most of all, and the least
        Trial high = new Trial().tell("mean", 100);
        for (int i = 0; i < 6; i++) {
            high.tell("turn", 2, 1, 50, 0);
        }
        for (int i = 0; i < 20; i++) {
            high.tell("surge", 1, 1, 100);
        }
        high.seas(0, 100, 2400, 100);
        Trial low = flat();
        for (int i = 0; i < 20; i++) {
            low.tell("surge", 0, 2000, -50);
        }
        low.seas(0, -1000).seas(2000, -1000);
    }

    private static void pastAndComing() {
        Trial x = new Trial().tell("surge", 1, 4, 5).tell("pass", 3).seas(0, 50, 55, 55, 55, 55, 50);
        x.tell("turn", 2, 1, 20, 0).tell("mean", 10).tell("surge", 3, 3, 100);
        x.seas(0, 50, 55, 55, 135, 15, 30);
        x.tell("mean", 20).seas(2, 55, 145, 25).tell("pass", 1).tell("mean", 30).seas(2, 55, 145, 35);
        // the last hour that can go by, and the one that cannot
        Trial end = new Trial().hours(1000).tell("mean", 9).seas(998, 50, 50, 9, 9).seas(2000, 9);
        end.tell("surge", 1000, 1000, 1).seas(999, 50, 10, 9);
    }
}
