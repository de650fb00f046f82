/** What stands under "The barrier": when it is closed, and its closures. */
public final class TheBarrierTest {
    private static final int NONE = Saltwedge.NONE;

    public static void main(String[] args) {
        Check.under("The barrier");
        Check.sentence("There is a barrier, or none, as at first: with a mark, 0 to 500, and a lead, 0 to 12 hours.",
                TheBarrierTest::orNone);
        Check.sentence("In an hour it is closed, if the SEA of that hour, or of one of as many hours behind it as the"
                + " lead, is above the mark, by what is told then.", TheBarrierTest::closed);
        Check.sentence("A CLOSURE is a row of hours, one behind the other, in which it was closed, whatever mark was"
                + " told between; CLOSURES are numbered from 0.", TheBarrierTest::rows);
        Check.sentence("It was RIGHT, if in one of its hours, so far, the SEA was above the mark of then.",
                TheBarrierTest::right);
        Check.end();
    }

    private static void orNone() {
        Trial none = new Trial().tell("surge", 0, 2000, 100).tell("pass", 3).due(0, "closures");
        // it is there, and gone again
        none.tell("barrier", 149, 12).tell("pass", 1).due(1, "closures").tell("barrier", NONE, 12).tell("pass", 3);
        none.due(1, "closures").row("closure", 0, 3, 3, 1);
        // the least mark: a SEA of 0 is not above it, one of 1 is, one below 0 is not
        new Trial().tell("mean", 0).tell("barrier", 0, 0).tell("pass", 1).due(0, "closures");
        new Trial().tell("mean", 1).tell("barrier", 0, 0).tell("pass", 1).due(1, "closures");
        new Trial().tell("surge", 0, 0, -50).tell("surge", 0, 0, -1).tell("barrier", 0, 0).tell("pass", 1)
                .due(0, "closures");
        // the greatest one
        Trial high = new Trial().tell("mean", 100).tell("barrier", 500, 0);
        for (int i = 0; i < 4; i++) {
            high.tell("surge", 0, 1, 100);
        }
        high.tell("pass", 1).due(0, "closures").tell("surge", 1, 1, 1).tell("pass", 1).due(1, "closures");
        Promise06Test.mark();
        Promise06Test.lead();
    }

    private static void closed() {
        // the SEA of that hour, without a lead: as high as the mark, and 1 above it
        new Trial().tell("surge", 5, 6, 10).tell("barrier", 60, 0).tell("pass", 9).due(0, "closures");
        new Trial().tell("surge", 5, 6, 11).tell("barrier", 60, 0).tell("pass", 9).due(1, "closures")
                .row("closure", 0, 5, 6, 1);
        // a lead of 1, of 3, and of 12: from so many hours ahead of the surge on, and none behind it
        new Trial().tell("surge", 5, 6, 11).tell("barrier", 60, 1).tell("pass", 4).due(0, "closures").tell("pass", 9)
                .row("closure", 0, 4, 6, 1).due(1, "closures");
        new Trial().tell("surge", 5, 6, 11).tell("barrier", 60, 3).tell("pass", 2).due(0, "closures").tell("pass", 9)
                .row("closure", 0, 2, 6, 1).due(1, "closures");
        new Trial().tell("surge", 13, 13, 11).tell("barrier", 60, 12).tell("pass", 1).due(0, "closures")
                .tell("pass", 1).row("closure", 0, 1, 1, 0).tell("pass", 20).row("closure", 0, 1, 13, 1);
        new Trial().tell("surge", 12, 12, 11).tell("barrier", 60, 12).tell("pass", 1).row("closure", 0, 0, 0, 0);
        // a surge within the lead, neither that hour nor the last one
        new Trial().tell("surge", 2, 2, 11).tell("barrier", 60, 4).tell("pass", 1).due(1, "closures");
        // what is foretold is told otherwise: the hours that went by stay, those behind it are open
        Trial x = new Trial().tell("surge", 6, 6, 20).tell("barrier", 60, 3).tell("pass", 4).row("closure", 0, 3, 3, 0);
        x.tell("surge", 6, 6, -20).tell("pass", 6).row("closure", 0, 3, 3, 0).due(1, "closures");
        // a surge that is told late closes none of the hours that went by
        Trial y = new Trial().tell("barrier", 60, 3).tell("pass", 4).tell("surge", 5, 5, 20).tell("pass", 6);
        y.due(1, "closures").row("closure", 0, 4, 5, 1);
        // the last hour, with the longest lead
        Trial end = new Trial().hours(999).tell("barrier", 60, 12).tell("surge", 1011, 1011, 11).tell("pass", 1);
        end.row("closure", 0, 999, 999, 0);
        Trial beyond = new Trial().hours(999).tell("barrier", 60, 12).tell("surge", 1012, 1012, 11).tell("pass", 1);
        beyond.due(0, "closures");
    }

    private static void rows() {
        // other marks, other leads, even none and one again: no open hour is between
        Trial x = new Trial().tell("barrier", 10, 0).tell("pass", 2).tell("barrier", NONE, 0).tell("barrier", 20, 5);
        x.tell("pass", 2).due(1, "closures").row("closure", 0, 0, 3, 1);
        // one open hour is between
        x.tell("barrier", NONE, 0).tell("pass", 1).tell("barrier", 20, 0).due(1, "closures").tell("pass", 1);
        x.due(2, "closures").row("closure", 0, 0, 3, 1).row("closure", 1, 5, 5, 1);
        // open by the mark, not by its being none
        x.tell("barrier", 50, 12).tell("pass", 1).tell("barrier", 49, 0).tell("pass", 2);
        x.due(3, "closures").row("closure", 1, 5, 5, 1).row("closure", 2, 7, 8, 1);
        // every other hour: as many as can be, the last one in the last hour but one
        Trial many = new Trial().tell("turn", 2, 1, 50, 1).tell("barrier", 50, 0).hours(1000).due(500, "closures");
        many.row("closure", 0, 0, 0, 1).row("closure", 77, 154, 154, 1).row("closure", 499, 998, 998, 1);
        // one that goes on from the first hour to the last
        Trial one = new Trial().tell("barrier", 0, 12).hours(1000).due(1, "closures").row("closure", 0, 0, 999, 1);
        one.index("closure", 1, 0);
    }

    private static void right() {
        // closed from 2 on for a surge in 4 and 5: right from 4 on
        Trial x = new Trial().tell("surge", 4, 5, 30).tell("barrier", 60, 2).tell("pass", 3).row("closure", 0, 2, 2, 0);
        x.tell("pass", 1).row("closure", 0, 2, 3, 0).tell("pass", 1).row("closure", 0, 2, 4, 1);
        x.tell("pass", 4).row("closure", 0, 2, 5, 1).due(1, "closures");
        // right in its first hour, and so it stays while the SEA is below
        Trial y = new Trial().tell("surge", 0, 0, 30).tell("surge", 3, 3, 30).tell("barrier", 60, 3).tell("pass", 1);
        y.row("closure", 0, 0, 0, 1).tell("pass", 2).row("closure", 0, 0, 2, 1);
        // the mark of then: the SEA of 50 is above none of 60 and 50, but above 40, and stays so by 79
        Trial z = new Trial().tell("surge", 4, 4, 30).tell("barrier", 60, 4).tell("pass", 2).row("closure", 0, 0, 1, 0);
        z.tell("barrier", 50, 4).tell("pass", 1).row("closure", 0, 0, 2, 0);
        z.tell("barrier", 49, 0).row("closure", 0, 0, 2, 0).tell("pass", 1).row("closure", 0, 0, 3, 1);
        z.tell("barrier", 79, 0).tell("pass", 2).row("closure", 0, 0, 4, 1);
        // a lower mark that is told behind its end, and a higher SEA there, change nothing
        Trial over = new Trial().tell("surge", 2, 2, 30).tell("barrier", 60, 2).tell("pass", 1);
        over.tell("surge", 2, 2, -30).tell("pass", 2).row("closure", 0, 0, 0, 0);
        over.tell("barrier", 0, 0).tell("pass", 1).row("closure", 0, 0, 0, 0).row("closure", 1, 3, 3, 1);
    }
}
