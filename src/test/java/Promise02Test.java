public final class Promise02Test {
    public static void main(String[] args) {
        Check.under("Promise 2: turn");
        Check.sentence("Tells a TURN.", Promise02Test::tells);
        Check.sentence("`period`: 2 to 60", Promise02Test::period);
        Check.sentence("`rise`: 1 to period less 1", Promise02Test::rise);
        Check.sentence("`range`: 0 to 50", Promise02Test::rangeOfHeight);
        Check.sentence("`phase`: 0 to 59", Promise02Test::phase);
        Check.sentence("Returns its number.", Promise02Test::number);
        Check.sentence("Throws `IllegalArgumentException` if period, rise, range or phase is out of range",
                Promise02Test::outOfRange);
        Check.sentence("Throws `IllegalStateException` if there are 6", Promise02Test::mostTurns);
        Check.end();
    }

    private static void tells() {
        new Trial().tell("turn", 4, 2, 20, 1).seas(0, 60, 70, 60, 50, 60);
        // one more, and the first one goes on; both hold for the hours that go by
        Trial x = new Trial().tell("turn", 2, 1, 20, 0).tell("turn", 3, 1, 7, 0).seas(0, 50, 77, 53, 70, 57, 73, 50);
        x.tell("pass", 4).seas(0, 50, 77, 53, 70, 57, 73, 50);
        new Trial().tell("turn", 2, 1, 20, 1).tell("section", 1, 0, 0, 0).tell("pass", 1).due(35, "sum", 0);
        new Trial().tell("turn", 2, 1, 20, 1).tell("barrier", 69, 0).tell("pass", 2).row("closure", 0, 0, 0, 1);
    }

    static void period() {
        Trial.range(Trial::new, 0, 2, 60, "turn", 2, 1, 50, 0);
        new Trial().tell("turn", 2, 1, 50, 0).seas(0, 50, 100, 50, 100);
        new Trial().tell("turn", 60, 1, 50, 0).seas(0, 50, 100, 99).seas(59, 50, 50, 100);
        new Trial().argument("turn", 0, 0, 0, 0).argument("turn", 0, -1, 0, 0).argument("turn", -5, -7, 0, 0);
        new Trial().argument("turn", 1, 0, 0, 0).argument("turn", 61, 60, 0, 0);
    }

    static void rise() {
        // up to 1, to 2, to 59: one beyond is the period itself
        Trial.range(Trial::new, 1, 1, 1, "turn", 2, 1, 50, 0);
        Trial.range(Trial::new, 1, 1, 2, "turn", 3, 1, 50, 0);
        Trial.range(Trial::new, 1, 1, 59, "turn", 60, 1, 50, 0);
        new Trial().tell("turn", 3, 1, 30, 0).seas(0, 50, 80, 65, 50);
        new Trial().tell("turn", 3, 2, 30, 0).seas(0, 50, 65, 80, 50);
    }

    static void rangeOfHeight() {
        Trial.range(Trial::new, 2, 0, 50, "turn", 2, 1, 7, 0);
        new Trial().tell("turn", 2, 1, 0, 0).seas(0, 50, 50, 50);
        new Trial().tell("turn", 2, 1, 50, 0).seas(0, 50, 100, 50);
    }

    static void phase() {
        Trial.range(Trial::new, 3, 0, 59, "turn", 2, 1, 50, 0);
        new Trial().tell("turn", 60, 30, 30, 0).seas(0, 50, 51, 52);
        new Trial().tell("turn", 60, 30, 30, 59).seas(0, 51, 50, 51);
        new Trial().tell("turn", 2, 1, 50, 59).seas(0, 100, 50, 100);
    }

    private static void number() {
        Trial x = new Trial().due(0, "turn", 2, 1, 0, 0).due(1, "turn", 2, 1, 0, 0).tell("pass", 9);
        x.due(2, "turn", 60, 59, 50, 59).argument("turn", 1, 1, 0, 0).due(3, "turn", 2, 1, 0, 0);
    }

    private static void outOfRange() {
        int[][] wrong = {{1, 1, 0, 0}, {61, 1, 0, 0}, {2, 0, 0, 0}, {2, 2, 0, 0}, {2, 1, -1, 0}, {2, 1, 51, 0},
            {2, 1, 0, -1}, {2, 1, 0, 60}, {60, 60, 50, 59}};
        for (int[] w : wrong) {
            new Trial().argument("turn", w).due(0, "turn", 60, 59, 50, 59).seas(0, 100, 50);
        }
    }

    static void mostTurns() {
        Trial x = new Trial().tell("mean", 0);
        for (int number = 0; number < 6; number++) {
            x.due(number, "turn", 2, 1, 1 + number, 0);
        }
        x.seas(0, 0, 21, 0).state("turn", 2, 1, 50, 0).seas(0, 0, 21, 0);
        x.tell("pass", 48).state("turn", 2, 1, 0, 0).seas(48, 0, 21);
        // those without a height count as well
        Trial y = new Trial();
        for (int number = 0; number < 6; number++) {
            y.due(number, "turn", 2, 1, 0, 0);
        }
        y.state("turn", 2, 1, 50, 0).seas(0, 50, 50);
    }
}
