public final class Promise06Test {
    private static final int NONE = Saltwedge.NONE;

    public static void main(String[] args) {
        Check.under("Promise 6: barrier");
        Check.sentence("Tells the barrier.", Promise06Test::tells);
        Check.sentence("`mark`: 0 to 500, or NONE, if there is none", Promise06Test::mark);
        Check.sentence("`lead`: 0 to 12", Promise06Test::lead);
        Check.sentence("Returns the mark before; NONE if there was none.", Promise06Test::before);
        Check.sentence("Throws `IllegalArgumentException` if mark or lead is out of range",
                Promise06Test::outOfRange);
        Check.end();
    }

    private static void tells() {
        new Trial().tell("barrier", 49, 0).tell("pass", 1).due(1, "closures");
        // in place of the one before, mark and lead; from NOW on
        Trial x = new Trial().tell("barrier", 49, 0).tell("barrier", 50, 0).tell("pass", 1).due(0, "closures");
        x.tell("surge", 4, 4, 1).tell("barrier", 50, 3).tell("pass", 1).row("closure", 0, 1, 1, 0);
        x.tell("barrier", 50, 1).tell("pass", 1).due(1, "closures").tell("pass", 1).row("closure", 1, 3, 3, 0);
        x.tell("barrier", NONE, 1).tell("pass", 1).due(2, "closures").row("closure", 1, 3, 3, 0);
    }

    static void mark() {
        Trial.range(Trial::new, 0, NONE, 500, "barrier", 9, 0);
        new Trial().argument("barrier", -2, 0).due(NONE, "barrier", 0, 0).due(0, "barrier", 500, 0);
        // NONE is no mark: a SEA of 50 is not above it
        new Trial().tell("barrier", NONE, 0).tell("pass", 1).due(0, "closures");
        new Trial().tell("barrier", 0, 0).tell("pass", 1).due(1, "closures");
        new Trial().tell("barrier", 500, 0).tell("pass", 1).due(0, "closures");
    }

    static void lead() {
        Trial.range(Trial::new, 1, 0, 12, "barrier", 60, 0);
        // where there is none, as well
        Trial.range(Trial::new, 1, 0, 12, "barrier", NONE, 0);
        for (int lead = 0; lead <= 12; lead++) {
            // the first hour from which a surge in the hour 13 is seen
            Trial x = new Trial().tell("surge", 13, 13, 11).tell("barrier", 60, lead).tell("pass", 14);
            x.row("closure", 0, 13 - lead, 13, 1).due(1, "closures");
        }
    }

    private static void before() {
        Trial x = new Trial().due(NONE, "barrier", 500, 12).due(500, "barrier", 0, 0).due(0, "barrier", NONE, 12);
        x.due(NONE, "barrier", NONE, 0).due(NONE, "barrier", 7, 0).tell("pass", 1).argument("barrier", 8, 13);
        x.due(7, "barrier", 9, 9);
    }

    private static void outOfRange() {
        int[][] wrong = {{-2, 0}, {501, 0}, {0, -1}, {0, 13}, {NONE, -1}, {NONE, 13}, {Integer.MIN_VALUE, 0},
            {Integer.MAX_VALUE, 0}, {0, Integer.MAX_VALUE}};
        for (int[] w : wrong) {
            new Trial().tell("barrier", 49, 0).argument("barrier", w).tell("pass", 1).due(1, "closures")
                    .due(49, "barrier", 49, 0);
            new Trial().argument("barrier", w).tell("pass", 1).due(0, "closures").due(NONE, "barrier", 49, 0);
        }
    }
}
