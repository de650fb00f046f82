public final class Promise14Test {
    public static void main(String[] args) {
        Check.under("Promise 14: now");
        Check.sentence("Returns NOW.", Promise14Test::now);
        Check.end();
    }

    private static void now() {
        Trial x = new Trial().due(0, "now").due(0, "now").tell("pass", 1).due(1, "now").tell("pass", 48).due(49, "now");
        // nothing but pass changes it, and not when it throws
        x.tell("mean", 3).tell("surge", 60, 61, 5).tell("sea", 2000).argument("pass", 0).argument("pass", 49)
                .due(49, "now");
        Trial y = new Trial().tell("section", 1, 0, 0, 9).tell("pass", 5).tell("ofSectionAnew", 0, 9).due(5, "now");
        y.tell("window", 1, 24).due(5, "now");
        new Trial().hours(999).due(999, "now").state("pass", 2).due(999, "now").tell("pass", 1).due(1000, "now")
                .state("pass", 1).due(1000, "now");
    }
}
