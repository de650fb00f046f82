public final class Promise15Test {
    public static void main(String[] args) {
        Check.under("Promise 15: sea");
        Check.sentence("Returns the SEA of an hour.", Promise15Test::ofAnHour);
        Check.sentence("`hour`: 0 to 2000", Promise15Test::hour);
        Check.sentence("Returns the SEA, below 0 perhaps.", Promise15Test::belowNothing);
        Check.sentence("Throws `IllegalArgumentException` if hour is out of range", Promise15Test::outOfRange);
        Check.end();
    }

    private static void ofAnHour() {
        Trial x = new Trial().tell("turn", 3, 1, 10, 0).tell("surge", 2, 3, 7).seas(0, 50, 60, 62, 57, 60, 55, 50);
        // hours that went by, NOW, and hours that come
        x.tell("pass", 3).tell("mean", 0).seas(0, 50, 60, 62, 7, 10, 5, 0).tell("pass", 1).seas(2, 62, 7, 10);
    }

    private static void hour() {
        Trial.range(Trial::new, 0, 0, 2000, "sea", 5);
        Trial.range(() -> new Trial().hours(1000), 0, 0, 2000, "sea", 5);
        Trial x = new Trial().tell("surge", 0, 0, 1).tell("surge", 2000, 2000, 2).due(51, "sea", 0)
                .due(52, "sea", 2000);
        x.hours(1000).tell("mean", 0).due(51, "sea", 0).due(50, "sea", 999).due(0, "sea", 1000).due(2, "sea", 2000);
    }

    private static void belowNothing() {
        Trial x = new Trial().tell("mean", 0).tell("surge", 0, 5, -1).due(-1, "sea", 0).due(0, "sea", 6);
        x.tell("pass", 3).due(-1, "sea", 0).due(-1, "sea", 5);
        for (int i = 0; i < 19; i++) {
            x.tell("surge", 4, 4, -50);
        }
        x.due(-951, "sea", 4).tell("pass", 2).due(-951, "sea", 4);
    }

    private static void outOfRange() {
        for (int hour : new int[] {-1, 2001, Integer.MIN_VALUE, Integer.MAX_VALUE}) {
            new Trial().argument("sea", hour).tell("pass", 9).argument("sea", hour);
        }
    }
}
