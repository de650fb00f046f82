public final class Promise05Test {
    public static void main(String[] args) {
        Check.under("Promise 5: river");
        Check.sentence("Tells the river.", Promise05Test::tells);
        Check.sentence("`water`: 0 to 500 an hour", Promise05Test::water);
        Check.sentence("`silt`: 0 to 500 an hour", Promise05Test::silt);
        Check.sentence("Returns the WATER an hour before.", Promise05Test::before);
        Check.sentence("Throws `IllegalArgumentException` if water or silt is out of range",
                Promise05Test::outOfRange);
        Check.end();
    }

    /** A SECTION whose LEVEL is that of the SEA. */
    private static Trial still() {
        return new Trial().tell("section", 100, 0, 5000, 0);
    }

    private static void tells() {
        // in place of what was told before; each hour anew
        Trial x = still().tell("river", 9, 9).tell("river", 3, 2).tell("pass", 3).due(9, "sum", 2).due(6, "sum", 7);
        x.tell("river", 0, 1).tell("pass", 2).due(9, "sum", 2).due(8, "sum", 7);
    }

    static void water() {
        Trial.range(Trial::new, 0, 0, 500, "river", 7, 7);
        still().tell("river", 500, 0).tell("pass", 1).due(500, "ofSection", 0, 0).due(0, "ofSection", 0, 5);
        still().tell("river", 0, 0).tell("pass", 1).due(0, "ofSection", 0, 0).due(0, "sum", 2);
        // of an hour: as often as hours go by
        new Trial().tell("section", 100, 0, 0, 0).tell("barrier", 0, 0).tell("river", 500, 0).hours(1000)
                .due(500000, "ofSection", 0, 0).due(500000, "sum", 2);
    }

    static void silt() {
        Trial.range(Trial::new, 1, 0, 500, "river", 7, 7);
        still().tell("river", 0, 500).tell("pass", 1).row("ofSection", 0, 0, 0, 5000, 0, 250, 250).due(500, "sum", 7);
        still().tell("river", 0, 1).tell("pass", 1).row("ofSection", 0, 0, 0, 5000, 0, 0, 1).due(1, "sum", 7);
        new Trial().tell("section", 100, 0, 0, 0).tell("barrier", 0, 0).tell("river", 0, 500).hours(1000)
                .due(500000, "sum", 7).due(499501, "ofSection", 0, 5).due(499, "ofSection", 0, 4);
    }

    private static void before() {
        Trial x = new Trial().due(0, "river", 500, 7).due(500, "river", 9, 500).due(9, "river", 9, 3);
        x.argument("river", 8, 501).due(9, "river", 0, 10).tell("pass", 5).due(0, "river", 1, 1);
    }

    private static void outOfRange() {
        int[][] wrong = {{-1, 5}, {501, 5}, {5, -1}, {5, 501}, {Integer.MIN_VALUE, 5}, {5, Integer.MAX_VALUE}};
        for (int[] w : wrong) {
            still().tell("river", 3, 2).argument("river", w).tell("pass", 1).due(3, "sum", 2).due(2, "sum", 7)
                    .due(3, "river", 0, 0);
        }
    }
}
