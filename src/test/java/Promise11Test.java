public final class Promise11Test {
    public static void main(String[] args) {
        Check.under("Promise 11: whyNot");
        Check.sentence("Returns why an amount of MUD cannot be dredged from a SECTION.", Promise11Test::why);
        Check.sentence("`amount`: 1 to 10000", Promise11Test::amount);
        Check.sentence("Returns 0 if it can, otherwise 1 to 3.", Promise11Test::canOrNot);
        Check.sentence("Throws `IndexOutOfBoundsException` as told", Promise11Test::noSuch);
        Check.sentence("Throws `IllegalArgumentException` if amount is out of range", Promise11Test::outOfRange);
        Check.end();
    }

    private static Trial withMud(int mud) {
        return new Trial().tell("section", 1, 0, 0, mud).tell("section", 1, 0, 0, 5);
    }

    private static void why() {
        // as it is now, of the SECTION itself; it changes nothing
        Trial x = withMud(9).tell("permit", 0, 20).due(0, "whyNot", 0, 9).due(3, "whyNot", 0, 10)
                .due(1, "whyNot", 1, 1);
        x.due(0, "whyNot", 0, 9).due(11, "dredge", 0, 9, 1).due(3, "whyNot", 0, 1).due(2, "whyNot", 0, 12);
        x.due(11, "permit", 0, 0).due(1, "whyNot", 0, 1).due(0, "sum", 9);
    }

    private static void amount() {
        Trial.range(() -> withMud(10000).tell("permit", 0, 10000), 1, 1, 10000, "whyNot", 0, 5);
        withMud(10000).tell("permit", 0, 10000).due(0, "whyNot", 0, 1).due(0, "whyNot", 0, 10000);
        withMud(9999).tell("permit", 0, 10000).due(0, "whyNot", 0, 9999).due(3, "whyNot", 0, 10000);
        withMud(10000).tell("permit", 0, 9999).due(0, "whyNot", 0, 9999).due(2, "whyNot", 0, 10000);
    }

    private static void canOrNot() {
        // permit, MUD, amount, reason: each by 1, and the first of several
        int[][] rows = {{0, 9, 1, 1}, {0, 9, 9, 1}, {0, 0, 9, 1}, {1, 9, 1, 0}, {1, 9, 2, 2}, {8, 9, 8, 0},
            {8, 9, 9, 2}, {8, 9, 10, 2}, {9, 9, 9, 0}, {9, 9, 10, 2}, {10, 9, 9, 0}, {10, 9, 10, 3}, {10, 9, 11, 2},
            {9, 0, 1, 3}};
        for (int[] r : rows) {
            Trial x = withMud(r[1]).tell("permit", 0, r[0]).due(r[3], "whyNot", 0, r[2]);
            if (r[3] == 0) {
                x.due(r[0] - r[2], "dredge", 0, r[2], 1);
            } else {
                x.state("dredge", 0, r[2], 1);
            }
        }
    }

    private static void noSuch() {
        Trial.numbers(() -> withMud(9), 0, 2, "whyNot", 0, 5);
        new Trial().index("whyNot", 0, 1).index("whyNot", 0, 0);
        withMud(9).index("whyNot", 2, 0).index("whyNot", -1, 10001);
    }

    private static void outOfRange() {
        for (int amount : new int[] {0, -1, 10001, Integer.MIN_VALUE, Integer.MAX_VALUE}) {
            withMud(9).argument("whyNot", 0, amount).tell("permit", 0, 9).argument("whyNot", 0, amount);
        }
    }
}
