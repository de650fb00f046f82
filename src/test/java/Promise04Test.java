public final class Promise04Test {
    public static void main(String[] args) {
        Check.under("Promise 4: surge");
        Check.sentence("Tells a surge.", Promise04Test::tells);
        Check.sentence("`from`: NOW to 2000", Promise04Test::from);
        Check.sentence("`to`: from to 2000", Promise04Test::to);
        Check.sentence("`height`: -50 to 100", Promise04Test::height);
        Check.sentence("Returns how many were told so far.", Promise04Test::count);
        Check.sentence("Throws `IllegalArgumentException` if from, to or height is out of range",
                Promise04Test::outOfRange);
        Check.sentence("Throws `IllegalStateException` if 20 were told", Promise04Test::mostSurges);
        Check.end();
    }

    private static void tells() {
        Trial x = new Trial().tell("surge", 1, 2, 40).seas(0, 50, 90, 90, 50).tell("pass", 2).seas(0, 50, 90, 90, 50);
        x.tell("surge", 2, 3, -5).seas(0, 50, 90, 85, 45, 50);
        new Trial().tell("section", 1, 0, 0, 0).tell("surge", 0, 0, 20).tell("pass", 1).due(35, "sum", 0);
        new Trial().tell("section", 1, 90, 0, 0).tell("surge", 0, 0, -20).tell("pass", 1).due(30, "sum", 1);
    }

    private static void from() {
        Trial.range(Trial::new, 0, 0, 2000, "surge", 0, 2000, 1);
        Trial.range(() -> new Trial().tell("pass", 7), 0, 7, 2000, "surge", 7, 2000, 1);
        Trial.range(() -> new Trial().hours(1000), 0, 1000, 2000, "surge", 1000, 2000, 1);
        new Trial().tell("surge", 0, 0, 1).seas(0, 51, 50).tell("surge", 2000, 2000, 1).seas(1999, 50, 51);
        new Trial().tell("pass", 7).tell("surge", 7, 8, 1).seas(6, 50, 51, 51, 50);
    }

    private static void to() {
        Trial.range(Trial::new, 1, 0, 2000, "surge", 0, 0, 1);
        Trial.range(Trial::new, 1, 1234, 2000, "surge", 1234, 1234, 1);
        Trial.range(Trial::new, 1, 2000, 2000, "surge", 2000, 2000, 1);
        new Trial().tell("surge", 5, 5, 1).seas(4, 50, 51, 50).tell("surge", 5, 2000, 1).seas(4, 50, 52, 51)
                .seas(1999, 51, 51);
    }

    static void height() {
        Trial.range(Trial::new, 2, -50, 100, "surge", 3, 3, 0);
        new Trial().tell("surge", 0, 0, -50).tell("surge", 1, 1, 100).tell("surge", 2, 2, 0).seas(0, 0, 150, 50);
    }

    private static void count() {
        Trial x = new Trial().due(1, "surge", 0, 0, 1).due(2, "surge", 0, 0, 1).argument("surge", 1, 0, 1);
        // those that are over count as well
        x.due(3, "surge", 5, 5, 1).tell("pass", 9).due(4, "surge", 9, 9, 0);
    }

    private static void outOfRange() {
        int[][] wrong = {{2, 9, 1}, {2001, 2001, 1}, {2001, 2000, 1}, {5, 4, 1}, {5, 2001, 1}, {3, 3, -51}, {3, 3, 101},
            {-1, 5, 1}};
        for (int[] w : wrong) {
            new Trial().tell("pass", 3).argument("surge", w).seas(2, 50, 50, 50, 50).seas(1999, 50, 50)
                    .due(1, "surge", 3, 3, 0);
        }
    }

    static void mostSurges() {
        Trial x = new Trial();
        for (int count = 1; count <= 20; count++) {
            x.due(count, "surge", 0, count - 1, 1);
        }
        x.seas(0, 70, 69).seas(18, 52, 51, 50).state("surge", 0, 0, 1).state("surge", 2000, 2000, 100).seas(0, 70, 69);
        // though all of them are over
        x.tell("pass", 30).state("surge", 30, 30, 1).seas(30, 50);
    }
}
