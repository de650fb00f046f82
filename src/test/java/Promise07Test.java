public final class Promise07Test {
    public static void main(String[] args) {
        Check.under("Promise 7: section");
        Check.sentence("Tells a SECTION, behind all that there are.", Promise07Test::behindAll);
        Check.sentence("`area`: 1 to 100", Promise07Test::area);
        Check.sentence("`up`: the WATER of UP, 0 to 10000", Promise07Test::up);
        Check.sentence("`low`: the WATER of LOW, 0 to 10000", Promise07Test::low);
        Check.sentence("`mud`: 0 to 10000", Promise07Test::mud);
        Check.sentence("Returns its number.", Promise07Test::number);
        Check.sentence("Throws `IllegalArgumentException` if area, up, low or mud is out of range",
                Promise07Test::outOfRange);
        Check.sentence("Throws `IllegalStateException` if there are 8,", Promise07Test::mostSections);
        Check.sentence("or an hour went by", Promise07Test::anHourWentBy);
        Check.end();
    }

    private static void behindAll() {
        Trial x = new Trial().tell("section", 1, 2, 3, 4).tell("section", 5, 6, 7, 8).tell("section", 9, 1, 2, 3);
        x.row("ofSection", 0, 2, 0, 3, 0, 0, 4).row("ofSection", 1, 6, 0, 7, 0, 0, 8)
                .row("ofSection", 2, 1, 0, 2, 0, 0, 3);
        // the river comes into the one that was told last
        x.tell("barrier", 0, 0).tell("river", 0, 9).tell("pass", 1);
        x.due(0, "ofSection", 0, 4).due(0, "ofSection", 1, 4).due(4, "ofSection", 2, 4);
    }

    static void area() {
        Trial.range(Trial::new, 0, 1, 100, "section", 7, 1, 1, 1);
        new Trial().tell("section", 1, 3, 4, 5).due(12, "ofSection", 0, 6);
        new Trial().tell("section", 100, 350, 450, 500).due(13, "ofSection", 0, 6);
        new Trial().argument("section", 0, 0, 0, 0).argument("section", -1, 0, 0, 0).argument("section", 101, 0, 0, 0);
    }

    private static void up() {
        Trial.range(Trial::new, 1, 0, 10000, "section", 7, 1, 1, 1);
        new Trial().tell("section", 1, 10000, 1, 2).row("ofSection", 0, 10000, 0, 1, 0, 0, 2, 10003);
        new Trial().tell("section", 1, 0, 1, 2).row("ofSection", 0, 0, 0, 1, 0, 0, 2, 3);
    }

    private static void low() {
        Trial.range(Trial::new, 2, 0, 10000, "section", 7, 1, 1, 1);
        new Trial().tell("section", 1, 1, 10000, 2).row("ofSection", 0, 1, 0, 10000, 0, 0, 2, 10003);
        new Trial().tell("section", 1, 1, 0, 2).row("ofSection", 0, 1, 0, 0, 0, 0, 2, 3);
    }

    private static void mud() {
        Trial.range(Trial::new, 3, 0, 10000, "section", 7, 1, 1, 1);
        new Trial().tell("section", 1, 1, 2, 10000).row("ofSection", 0, 1, 0, 2, 0, 0, 10000, 10003);
        new Trial().tell("section", 1, 1, 2, 0).row("ofSection", 0, 1, 0, 2, 0, 0, 0, 3);
    }

    private static void number() {
        Trial x = new Trial().due(0, "section", 1, 0, 0, 0).argument("section", 0, 0, 0, 0)
                .due(1, "section", 1, 0, 0, 0);
        x.due(2, "section", 100, 10000, 10000, 10000);
    }

    private static void outOfRange() {
        int[][] wrong = {{0, 1, 1, 1}, {101, 1, 1, 1}, {1, -1, 1, 1}, {1, 10001, 1, 1}, {1, 1, -1, 1}, {1, 1, 10001, 1},
            {1, 1, 1, -1}, {1, 1, 1, 10001}};
        for (int[] w : wrong) {
            new Trial().argument("section", w).index("ofSection", 0, 0).due(0, "section", 1, 2, 3, 4)
                    .row("ofSection", 0, 2, 0, 3, 0, 0, 4);
        }
    }

    static void mostSections() {
        Trial x = new Trial();
        for (int number = 0; number < 8; number++) {
            x.due(number, "section", 10 + number, 20 + number, 30 + number, 40 + number);
        }
        x.state("section", 1, 0, 0, 0).index("ofSection", 8, 0);
        for (int number = 0; number < 8; number++) {
            x.row("ofSection", number, 20 + number, 0, 30 + number, 0, 0, 40 + number);
        }
        // it comes into the eighth, and 1 / 2 settles
        x.tell("barrier", 0, 0).tell("river", 0, 1).tell("pass", 1).due(48, "ofSection", 7, 5);
    }

    private static void anHourWentBy() {
        new Trial().tell("pass", 1).state("section", 1, 0, 0, 0).index("ofSection", 0, 0).state("window", 1, 1);
        new Trial().tell("section", 1, 0, 0, 0).hours(1000).state("section", 1, 0, 0, 0).index("ofSection", 1, 0);
        // an hour that could not go by did not
        new Trial().argument("pass", 0).argument("pass", 49).due(0, "section", 1, 0, 0, 0);
        // nor do other calls hinder it
        Trial x = new Trial().tell("turn", 2, 1, 0, 0).tell("mean", 3).tell("surge", 0, 0, 1).tell("river", 1, 1);
        x.tell("barrier", 9, 9).due(0, "section", 1, 0, 0, 5).tell("intake", 0, 1, 0, 1, 0).tell("oysters", 0, 0, 1);
        x.tell("permit", 0, 9).tell("dredge", 0, 1, -1).tell("ofSectionAnew", 0, 5).due(1, "section", 1, 0, 0, 0);
    }
}
