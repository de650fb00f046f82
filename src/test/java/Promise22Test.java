public final class Promise22Test {
    public static void main(String[] args) {
        Check.under("Promise 22: intrusion");
        Check.sentence("Returns how far salt comes: how many SECTIONS, from the SECTION 0 on, one behind the other,"
                + " have a LOW whose salinity is a grain or above.", Promise22Test::howFar);
        Check.sentence("`grain`: 1 to 30", Promise22Test::grain);
        Check.sentence("Throws `IllegalArgumentException` if grain is out of range", Promise22Test::outOfRange);
        Check.end();
    }

    private static void howFar() {
        // none without SECTIONS, without an hour, without WATER
        new Trial().due(0, "intrusion", 1).due(0, "intrusion", 30);
        new Trial().tell("section", 1, 9, 9, 9).due(0, "intrusion", 1);
        new Trial().tell("barrier", 0, 0).tell("section", 1, 9, 0, 9).tell("pass", 1).due(0, "intrusion", 1);
        // 28 and 30, then fresh WATER: 29 and 30 are not in the SECTION 0, and so not counted behind it
        Trial x = new Trial().tell("section", 8, 20, 0, 0).tell("section", 8, 0, 0, 0).tell("section", 8, 0, 800, 0);
        x.tell("section", 8, 0, 0, 0).tell("pass", 1).due(28, "ofSection", 0, 8).due(30, "ofSection", 1, 8);
        x.due(0, "ofSection", 2, 8).due(2, "intrusion", 1).due(2, "intrusion", 27).due(2, "intrusion", 28);
        x.due(0, "intrusion", 29).due(0, "intrusion", 30);
        // 30, 28 and 30: those behind one that is fresher do not count. 200 come, 48 and 14 of them flow on; then the
        // 8 of UP in the SECTION 1 take 60 of 1020 from the 34 of its LOW
        Trial gap = new Trial().tell("section", 8, 0, 0, 0).tell("section", 8, 8, 0, 0).tell("section", 8, 0, 0, 0);
        gap.tell("pass", 1).due(30, "ofSection", 0, 8).due(28, "ofSection", 1, 8).due(30, "ofSection", 2, 8);
        gap.due(3, "intrusion", 28).due(1, "intrusion", 29).due(1, "intrusion", 30);
        // 250 come, 62 flow on, then 15, then 2; later it is all of eight
        Trial eight = new Trial();
        for (int k = 0; k < 8; k++) {
            eight.tell("section", 10, 0, 0, 0);
        }
        eight.tell("pass", 1).due(4, "intrusion", 30).due(4, "intrusion", 1).tell("pass", 47);
        eight.due(8, "intrusion", 30).due(8, "intrusion", 1);
    }

    private static void grain() {
        Trial.range(SectionsTest::mixed, 0, 1, 30, "intrusion", 7);
        // 1 and 30: LOW of 0 is of 1 by 30 / 30, of 0 by 30 / 31, of 30 by the sea alone
        new Trial().tell("section", 1, 0, 29, 0).tell("mean", 31).tell("pass", 1).due(1, "intrusion", 1)
                .due(0, "intrusion", 2);
        new Trial().tell("section", 1, 0, 30, 0).tell("mean", 32).tell("pass", 1).due(0, "intrusion", 1);
        new Trial().tell("section", 1, 0, 0, 0).tell("pass", 1).due(1, "intrusion", 30);
    }

    private static void outOfRange() {
        for (int grain : new int[] {0, -1, 31, Integer.MIN_VALUE, Integer.MAX_VALUE}) {
            new Trial().argument("intrusion", grain);
            SectionsTest.mixed().argument("intrusion", grain);
        }
    }
}
