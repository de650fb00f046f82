public final class Promise13Test {
    public static void main(String[] args) {
        Check.under("Promise 13: pass");
        Check.sentence("Lets hours go by, one after the other.", Promise13Test::oneAfterTheOther);
        Check.sentence("`hours`: 1 to 48", Promise13Test::hours);
        Check.sentence("Returns NOW.", Promise13Test::returnsNow);
        Check.sentence("Throws `IllegalArgumentException` if hours is out of range", Promise13Test::outOfRange);
        Check.sentence("Throws `IllegalStateException` if NOW would be above 1000", Promise13Test::aboveThousand);
        Check.end();
    }

    private static void oneAfterTheOther() {
        // LEVELS of 0, 25, 37, 43: 25, 12, 6 and 3 come
        new Trial().tell("section", 1, 0, 0, 0).tell("pass", 4).due(46, "sum", 0).row("ofSection", 0, 0, 0, 46, 1380);
        // as many at once as one by one, of a whole mouth
        for (int many : new int[] {2, 7, 48}) {
            Trial once = ExceptionsTest.full().tell("pass", many);
            Trial each = ExceptionsTest.full();
            for (int i = 0; i < many; i++) {
                each.tell("pass", 1);
            }
            for (int k = 0; k < 8; k++) {
                for (int what = 0; what < 10; what++) {
                    once.due(Long.parseLong(each.ask("ofSection", k, what)), "ofSection", k, what);
                }
            }
            once.due(Long.parseLong(each.ask("closures")), "closures").due(5 + many, "now");
        }
    }

    private static void hours() {
        Trial.range(Trial::new, 0, 1, 48, "pass", 5);
        new Trial().due(1, "pass", 1).due(49, "pass", 48).due(49, "now");
        // a barrier that is closed in each of them
        new Trial().tell("barrier", 0, 0).tell("pass", 48).row("closure", 0, 0, 47, 1);
        new Trial().tell("barrier", 0, 0).tell("pass", 1).row("closure", 0, 0, 0, 1);
    }

    private static void returnsNow() {
        Trial x = new Trial().due(3, "pass", 3).due(3, "now").due(4, "pass", 1).due(4, "now").argument("pass", 49);
        x.due(52, "pass", 48).due(52, "now");
    }

    private static void outOfRange() {
        for (int hours : new int[] {0, -1, 49, Integer.MIN_VALUE, Integer.MAX_VALUE}) {
            new Trial().argument("pass", hours).due(0, "now").tell("pass", 9).argument("pass", hours).due(9, "now");
            // at the last hour, too
            new Trial().hours(1000).argument("pass", hours).due(1000, "now");
        }
    }

    private static void aboveThousand() {
        new Trial().hours(952).due(1000, "pass", 48).due(1000, "now");
        new Trial().hours(953).state("pass", 48).due(953, "now").due(1000, "pass", 47);
        new Trial().hours(999).state("pass", 2).state("pass", 48).due(999, "now").due(1000, "pass", 1);
        Trial x = new Trial().tell("section", 1, 0, 0, 0).tell("river", 1, 0).hours(1000).due(1000, "now");
        x.state("pass", 1).state("pass", 48).due(1000, "now").due(1000, "sum", 2);
        // all but SECTIONS can be told at the last hour, and asked
        Trial end = new Trial().tell("section", 1, 0, 50, 9).tell("section", 1, 0, 50, 9).hours(1000);
        end.due(0, "turn", 2, 1, 20, 1).due(50, "mean", 10).due(1, "surge", 1000, 1000, 3).seas(999, 50, 33, 10, 30);
        end.due(0, "river", 5, 5).due(Saltwedge.NONE, "barrier", 20, 0).due(0, "closures").due(5, "river", 0, 0);
        end.due(0, "intake", 0, 1, 0, 1, 0).row("ofIntake", 0, 0, 0, 0, 0, 0).due(0, "oysters", 0, 0, 24);
        end.due(0, "isClosed", 0).due(0, "permit", 0, 9).due(5, "dredge", 0, 4, 1).due(5, "ofSection", 0, 5);
        end.due(5, "ofSectionAnew", 0, 5).due(4, "ofSectionAnew", 1, 4).state("section", 1, 0, 0, 0);
        end.due(1000, "window", 28, 1).due(Saltwedge.NONE, "window", 29, 1).due(0, "intrusion", 1);
    }
}
