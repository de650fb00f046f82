public final class Promise03Test {
    public static void main(String[] args) {
        Check.under("Promise 3: mean");
        Check.sentence("Tells the mean.", Promise03Test::tells);
        Check.sentence("`level`: 0 to 100", Promise03Test::level);
        Check.sentence("Returns the mean before.", Promise03Test::before);
        Check.sentence("Throws `IllegalArgumentException` if level is out of range", Promise03Test::outOfRange);
        Check.end();
    }

    private static void tells() {
        new Trial().tell("mean", 33).seas(0, 33).due(33, "sea", 2000).tell("mean", 34).seas(0, 34);
        // it comes in place of the one before, not on top of it; it holds for the hour that goes by
        Trial x = new Trial().tell("section", 1, 0, 0, 0).tell("mean", 20).tell("mean", 30).tell("pass", 1);
        x.due(15, "sum", 0).seas(0, 30, 30);
    }

    private static void level() {
        Trial.range(Trial::new, 0, 0, 100, "mean", 7);
        new Trial().tell("mean", 0).seas(0, 0).tell("mean", 100).seas(0, 100);
    }

    private static void before() {
        Trial x = new Trial().due(50, "mean", 7).due(7, "mean", 7).due(7, "mean", 100).due(100, "mean", 0);
        x.tell("pass", 1).due(0, "mean", 1).argument("mean", 101).due(1, "mean", 50);
        // the mean alone, without turns and surges
        new Trial().tell("turn", 2, 1, 20, 1).tell("surge", 0, 9, 30).due(50, "mean", 60);
    }

    private static void outOfRange() {
        for (int level : new int[] {-1, 101, Integer.MIN_VALUE, Integer.MAX_VALUE}) {
            new Trial().argument("mean", level).seas(0, 50).due(50, "mean", 50);
        }
    }
}
