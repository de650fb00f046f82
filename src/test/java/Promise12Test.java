public final class Promise12Test {
    private static final int SEA = Saltwedge.NONE;

    public static void main(String[] args) {
        Check.under("Promise 12: dredge");
        Check.sentence("Dredges MUD.", Promise12Test::dredges);
        Check.sentence("`amount`: 1 to 10000", Promise12Test::amount);
        Check.sentence("`to`: another SECTION, or NONE for the sea", Promise12Test::to);
        Check.sentence("Returns what is left of the permit.", Promise12Test::left);
        Check.sentence("Throws `IndexOutOfBoundsException` as told, of both, but for NONE", Promise12Test::noSuch);
        Check.sentence("Throws `IllegalArgumentException` if amount is out of range,", Promise12Test::outOfRange);
        Check.sentence("or both are the same", Promise12Test::bothTheSame);
        Check.sentence("Throws `IllegalStateException` if it is refused", Promise12Test::refused);
        Check.end();
    }

    /** MUD of 100 and of 50, and a permit of 60 for each. */
    private static Trial two() {
        Trial x = new Trial().tell("section", 1, 0, 0, 100).tell("section", 2, 0, 0, 50).tell("permit", 0, 60);
        return x.tell("permit", 1, 60);
    }

    private static void unchanged(Trial x) {
        x.row("ofSection", 0, 0, 0, 0, 0, 0, 100).row("ofSection", 1, 0, 0, 0, 0, 0, 50).due(0, "sum", 9);
        x.due(60, "permit", 0, 60).due(60, "permit", 1, 60);
    }

    private static void dredges() {
        Trial x = two().tell("dredge", 0, 20, 1).row("ofSection", 0, 0, 0, 0, 0, 0, 80, 80);
        x.row("ofSection", 1, 0, 0, 0, 0, 20, 50, 25).tell("dredge", 0, 5, 1).due(25, "ofSection", 1, 4);
        x.tell("dredge", 1, 50, 0).row("ofSection", 1, 0, 0, 0, 0, 25, 0, 0)
                .row("ofSection", 0, 0, 0, 0, 0, 50, 75, 75);
        // the CLOUD settles hour by hour
        x.tell("mean", 0).tell("pass", 1).due(25, "ofSection", 0, 4).due(100, "ofSection", 0, 5)
                .due(13, "ofSection", 1, 5);
    }

    private static void amount() {
        Trial.range(() -> Promise10Test.muddy().tell("permit", 0, 10000), 1, 1, 10000, "dredge", 0, 5, SEA);
        Trial most = Promise10Test.muddy().tell("permit", 0, 10000).due(0, "dredge", 0, 10000, 1);
        most.due(0, "ofSection", 0, 5).due(10000, "ofSection", 1, 4);
        Trial least = Promise10Test.muddy().tell("permit", 0, 10000).due(9999, "dredge", 0, 1, SEA);
        least.due(9999, "ofSection", 0, 5).due(1, "sum", 9);
    }

    private static void to() {
        two().tell("dredge", 0, 9, 1).due(9, "ofSection", 1, 4).due(0, "sum", 9).due(50, "ofSection", 1, 5);
        two().tell("dredge", 1, 9, 0).due(9, "ofSection", 0, 4).due(0, "sum", 9).due(100, "ofSection", 0, 5);
        two().tell("dredge", 0, 9, SEA).due(0, "ofSection", 1, 4).due(9, "sum", 9).due(0, "sum", 8);
        two().tell("dredge", 1, 9, SEA).due(0, "ofSection", 0, 4).due(9, "sum", 9);
    }

    private static void left() {
        Trial x = two().due(40, "dredge", 0, 20, 1).due(10, "dredge", 0, 30, SEA).due(0, "dredge", 0, 10, SEA);
        x.due(59, "dredge", 1, 1, SEA).due(0, "permit", 0, 0).due(59, "permit", 1, 0);
    }

    private static void noSuch() {
        Trial.numbers(Promise12Test::two, 0, 2, "dredge", 0, 5, SEA);
        for (int none : new int[] {2, -2, Integer.MIN_VALUE, Integer.MAX_VALUE}) {
            unchanged(two().index("dredge", 0, 5, none).index("dredge", none, 5, 0).index("dredge", none, 5, none));
        }
        // -1 is the sea in the second place alone
        unchanged(two().index("dredge", -1, 5, 0).index("dredge", -1, 5, SEA));
        new Trial().index("dredge", 0, 1, SEA).index("dredge", 0, 1, 0).index("dredge", SEA, 1, SEA);
    }

    private static void outOfRange() {
        for (int amount : new int[] {0, -1, 10001, Integer.MIN_VALUE, Integer.MAX_VALUE}) {
            unchanged(two().argument("dredge", 0, amount, 1).argument("dredge", 1, amount, SEA));
        }
    }

    private static void bothTheSame() {
        unchanged(two().argument("dredge", 0, 5, 0).argument("dredge", 1, 5, 1));
        // ahead of its being refused
        unchanged(two().argument("dredge", 0, 61, 0).argument("dredge", 1, 51, 1));
        new Trial().tell("section", 1, 0, 0, 9).argument("dredge", 0, 1, 0);
    }

    private static void refused() {
        unchanged(two().state("dredge", 0, 61, 1).state("dredge", 1, 51, SEA).state("dredge", 1, 61, SEA));
        Trial x = two().tell("permit", 0, 0).state("dredge", 0, 1, 1).state("dredge", 0, 1, SEA).tell("permit", 0, 60);
        unchanged(x);
        // just enough of the permit, and of the MUD
        two().due(0, "dredge", 0, 60, SEA).state("dredge", 0, 1, SEA);
        two().due(10, "dredge", 1, 50, SEA).state("dredge", 1, 1, SEA).due(10, "permit", 1, 0);
    }
}
