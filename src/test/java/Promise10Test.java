public final class Promise10Test {
    private static final int SEA = Saltwedge.NONE;

    public static void main(String[] args) {
        Check.under("Promise 10: permit");
        Check.sentence("Tells a permit.", Promise10Test::tells);
        Check.sentence("`amount`: 0 to 10000", Promise10Test::amount);
        Check.sentence("Returns what was left of the one before.", Promise10Test::leftBefore);
        Check.sentence("Throws `IndexOutOfBoundsException` as told", Promise10Test::noSuch);
        Check.sentence("Throws `IllegalArgumentException` if amount is out of range", Promise10Test::outOfRange);
        Check.end();
    }

    /** Two SECTIONS with as much MUD as can be told. */
    static Trial muddy() {
        return new Trial().tell("section", 1, 0, 0, 10000).tell("section", 1, 0, 0, 10000);
    }

    private static void tells() {
        muddy().tell("permit", 1, 5).due(1, "whyNot", 0, 5).due(0, "whyNot", 1, 5).due(2, "whyNot", 1, 6);
        // in place of the one before: more, less, none
        Trial x = muddy().tell("permit", 0, 5).tell("permit", 0, 9).due(0, "whyNot", 0, 9).due(2, "whyNot", 0, 10);
        x.tell("permit", 0, 3).due(0, "whyNot", 0, 3).due(2, "whyNot", 0, 4).tell("permit", 0, 0)
                .due(1, "whyNot", 0, 1);
    }

    private static void amount() {
        Trial.range(Promise10Test::muddy, 1, 0, 10000, "permit", 0, 5);
        muddy().tell("permit", 0, 0).due(1, "whyNot", 0, 1);
        muddy().tell("permit", 0, 1).due(0, "whyNot", 0, 1).due(2, "whyNot", 0, 2);
        muddy().tell("permit", 0, 10000).due(0, "whyNot", 0, 10000).due(0, "dredge", 0, 10000, SEA);
    }

    private static void leftBefore() {
        Trial x = muddy().due(0, "permit", 0, 10000).due(10000, "permit", 0, 70).due(0, "permit", 1, 9);
        x.tell("dredge", 0, 30, SEA).due(40, "permit", 0, 5).tell("dredge", 0, 5, 1).due(0, "permit", 0, 8);
        // what is refused and hours leave it
        x.state("dredge", 0, 9, SEA).argument("permit", 0, 10001).tell("pass", 9).due(8, "permit", 0, 0);
        x.due(0, "permit", 0, 0).due(9, "permit", 1, 0);
    }

    private static void noSuch() {
        Trial.numbers(Promise10Test::muddy, 0, 2, "permit", 0, 5);
        new Trial().index("permit", 0, 0).index("permit", 0, 10001);
        muddy().index("permit", 2, -1).index("permit", -1, 10001).due(0, "permit", 1, 0);
    }

    private static void outOfRange() {
        for (int amount : new int[] {-1, 10001, Integer.MIN_VALUE, Integer.MAX_VALUE}) {
            muddy().tell("permit", 0, 7).argument("permit", 0, amount).due(7, "permit", 0, 7);
        }
    }
}
