public final class Promise20Test {
    private static final int NONE = Saltwedge.NONE;

    public static void main(String[] args) {
        Check.under("Promise 20: closures");
        Check.sentence("Returns how many CLOSURES there were,", Promise20Test::howMany);
        Check.sentence("one that goes on with them.", Promise20Test::goesOn);
        Check.end();
    }

    private static void howMany() {
        new Trial().due(0, "closures").tell("pass", 9).due(0, "closures").tell("barrier", 50, 12).tell("pass", 9)
                .due(0, "closures");
        Trial x = new Trial().tell("turn", 4, 2, 20, 0).tell("barrier", 69, 0);
        for (int count = 0; count < 12; count++) {
            x.due(count, "closures").tell("pass", 4);
        }
        // as many as can be, and not one more
        Trial many = new Trial().tell("turn", 2, 1, 50, 1).tell("barrier", 50, 0).hours(998).due(499, "closures");
        many.tell("pass", 1).due(500, "closures").tell("pass", 1).due(500, "closures");
        new Trial().tell("turn", 2, 1, 50, 0).tell("barrier", 50, 0).hours(999).due(499, "closures").tell("pass", 1)
                .due(500, "closures").row("closure", 499, 999, 999, 1);
    }

    private static void goesOn() {
        Trial x = new Trial().tell("barrier", 49, 0).tell("pass", 1).due(1, "closures").tell("pass", 1)
                .due(1, "closures");
        // it is told of, but no hour went by yet
        x.tell("barrier", NONE, 0).due(1, "closures").tell("barrier", 0, 0).due(1, "closures").tell("pass", 5);
        x.due(1, "closures").tell("barrier", NONE, 0).tell("pass", 1).due(1, "closures").tell("barrier", 0, 0);
        x.due(1, "closures").tell("pass", 1).due(2, "closures");
    }
}
