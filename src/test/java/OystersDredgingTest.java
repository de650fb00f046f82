/** What stands under "Oysters, dredging". */
public final class OystersDredgingTest {
    private static final int NONE = Saltwedge.NONE;

    public static void main(String[] args) {
        Check.under("Oysters, dredging");
        Check.sentence("OYSTERS, at most 6, are numbered from 0: at a SECTION, with a grain, 0 to 30, and hours, 1 to"
                + " 24.", OystersDredgingTest::told);
        Check.sentence("They are closed, if the salinity of the LOW there was below the grain",
                OystersDredgingTest::belowTheGrain);
        Check.sentence("at the end of one of the last so many hours that went by,", OystersDredgingTest::lastHours);
        Check.sentence("also of such as went by ahead of being told.", OystersDredgingTest::aheadOfBeingTold);
        Check.sentence("A permit is told for a SECTION, for so much MUD;", OystersDredgingTest::permits);
        Check.sentence("what is left of the one before is gone then;", OystersDredgingTest::goneThen);
        Check.sentence("0 at first.", OystersDredgingTest::noneAtFirst);
        Check.sentence("MUD is dredged from a SECTION and brought to the sea, or into the CLOUD of another SECTION.",
                OystersDredgingTest::brought);
        Check.sentence("It is refused by the first of these: 1, there is no permit left for the SECTION, that is, 0;",
                OystersDredgingTest::noPermit);
        Check.sentence("2, it is more than is left;", OystersDredgingTest::moreThanLeft);
        Check.sentence("3, the SECTION has less MUD.", OystersDredgingTest::lessMud);
        Check.sentence("Otherwise what is left of the permit is less by it.", OystersDredgingTest::lessByIt);
        Check.end();
    }

    private static void told() {
        Promise09Test.mostOysters();
        Promise09Test.grain();
        Promise09Test.hours();
        // LOW of 0 is of 28, that of 1 of 30
        Trial x = SectionsTest.mixed().due(0, "oysters", 0, 30, 1).due(1, "oysters", 1, 30, 1)
                .due(2, "oysters", 0, 1, 1);
        x.due(1, "isClosed", 0).due(0, "isClosed", 1).due(0, "isClosed", 2);
    }

    private static void belowTheGrain() {
        // 28: not below 27 and 28, but below 29
        Trial x = SectionsTest.mixed().tell("oysters", 0, 27, 1).tell("oysters", 0, 28, 1).tell("oysters", 0, 29, 1);
        x.due(0, "isClosed", 0).due(0, "isClosed", 1).due(1, "isClosed", 2);
        // the LOW there, not the UP, whose salinity is 7
        SectionsTest.mixed().tell("oysters", 0, 8, 1).due(0, "isClosed", 0);
        // nothing is below 0; 30 is the greatest: not below 30; without WATER it is 0
        Trial y = new Trial().tell("barrier", 0, 0).tell("section", 1, 0, 0, 0).tell("pass", 1);
        y.tell("oysters", 0, 0, 1).tell("oysters", 0, 1, 1).tell("oysters", 0, 30, 1);
        y.due(0, "isClosed", 0).due(1, "isClosed", 1).due(1, "isClosed", 2);
        y.tell("barrier", NONE, 0).tell("pass", 1).due(0, "isClosed", 0).due(0, "isClosed", 1).due(0, "isClosed", 2);
    }

    /** LOW is without WATER at the end of the first so many hours, then of a salinity of 30. */
    private static Trial dryFor(int hours) {
        return new Trial().tell("barrier", 0, 0).tell("section", 1, 0, 0, 0).hours(hours).tell("barrier", NONE, 0);
    }

    /** Oysters of so many hours are closed; those of one hour less are not. */
    private static void edge(Trial x, int hours) {
        x.tell("oysters", 0, 30, hours).due(1, "isClosed", 0);
        x.tell("oysters", 0, 30, hours - 1).due(0, "isClosed", 1);
    }

    private static void lastHours() {
        // no hour went by: none of them was fresh
        dryFor(0).tell("oysters", 0, 30, 1).tell("oysters", 0, 30, 24).due(0, "isClosed", 0).due(0, "isClosed", 1);
        // fewer went by than are asked for: 1, all salty; 1, fresh; 3, all salty
        dryFor(0).tell("pass", 1).tell("oysters", 0, 30, 24).due(0, "isClosed", 0);
        dryFor(1).tell("oysters", 0, 30, 24).due(1, "isClosed", 0).tell("oysters", 0, 30, 1).due(1, "isClosed", 1);
        dryFor(0).tell("pass", 3).tell("oysters", 0, 30, 24).due(0, "isClosed", 0);
        // at the end of the hour, not at its beginning
        dryFor(0).tell("oysters", 0, 30, 1).tell("pass", 1).due(0, "isClosed", 0);
        // the last fresh hour is one of the last 2, 3, 23, 24 of them, and none of the last 1, 2, 22, 23
        for (int salty : new int[] {1, 2, 22, 23}) {
            edge(dryFor(1).tell("pass", salty), salty + 1);
            edge(dryFor(3).tell("pass", salty), salty + 1);
            edge(dryFor(30).tell("pass", salty), salty + 1);
        }
        // 24 salty hours behind it: none of the last 24 was fresh
        dryFor(1).tell("pass", 24).tell("oysters", 0, 30, 24).due(0, "isClosed", 0);
        dryFor(24).tell("pass", 24).tell("oysters", 0, 30, 24).due(0, "isClosed", 0);
        dryFor(48).tell("pass", 24).tell("oysters", 0, 30, 24).due(0, "isClosed", 0);
        // they are closed, and open again, hour by hour
        Trial x = dryFor(2).tell("oysters", 0, 30, 3).due(1, "isClosed", 0).tell("pass", 1).due(1, "isClosed", 0);
        x.tell("pass", 1).due(1, "isClosed", 0).tell("pass", 1).due(0, "isClosed", 0);
        // the last hours that can go by
        edge(dryFor(977).tell("pass", 23), 24);
        dryFor(976).tell("pass", 24).tell("oysters", 0, 30, 24).due(0, "isClosed", 0);
    }

    private static void aheadOfBeingTold() {
        dryFor(1).tell("oysters", 0, 30, 1).due(1, "isClosed", 0).tell("pass", 1).due(0, "isClosed", 0);
        dryFor(1).tell("pass", 23).tell("oysters", 0, 30, 24).due(1, "isClosed", 0).tell("pass", 1)
                .due(0, "isClosed", 0);
    }

    /** MUD of 100 in the SECTION 0, of 50 in the SECTION 1, of 10 in the SECTION 2. */
    private static Trial three() {
        Trial x = new Trial().tell("section", 1, 0, 0, 100).tell("section", 2, 0, 0, 50);
        return x.tell("section", 1, 0, 0, 10);
    }

    private static void permits() {
        three().tell("permit", 1, 20).due(1, "whyNot", 0, 20).due(0, "whyNot", 1, 20).due(1, "whyNot", 2, 10);
        three().tell("permit", 1, 20).due(2, "whyNot", 1, 21).due(0, "whyNot", 1, 1);
        // it is for MUD, whether there is so much or not, and does not end with hours
        Trial x = three().tell("permit", 1, 10000).due(0, "whyNot", 1, 50).due(3, "whyNot", 1, 51).hours(100);
        x.due(9995, "dredge", 1, 5, NONE);
    }

    private static void goneThen() {
        Trial x = three().tell("permit", 0, 60).due(60, "permit", 0, 20).due(2, "whyNot", 0, 21)
                .due(0, "whyNot", 0, 20);
        x.due(15, "dredge", 0, 5, NONE).due(15, "permit", 0, 0).due(1, "whyNot", 0, 1).due(0, "permit", 0, 7);
        x.due(7, "permit", 0, 7);
        // that of another SECTION stays
        x.due(0, "permit", 1, 9).due(7, "permit", 0, 8).due(9, "permit", 1, 0);
    }

    private static void noneAtFirst() {
        three().due(1, "whyNot", 0, 1).due(1, "whyNot", 2, 1).due(0, "permit", 0, 5).due(0, "permit", 1, 5);
        three().state("dredge", 0, 1, NONE);
    }

    private static void brought() {
        Trial x = three().tell("permit", 0, 60).tell("dredge", 0, 20, 1).due(80, "ofSection", 0, 5);
        x.due(0, "ofSection", 0, 4).due(20, "ofSection", 1, 4).due(50, "ofSection", 1, 5).due(0, "sum", 9);
        x.tell("dredge", 0, 30, NONE).due(50, "ofSection", 0, 5).due(30, "sum", 9).due(20, "ofSection", 1, 4);
        x.tell("dredge", 0, 3, 2).due(47, "ofSection", 0, 5).due(3, "ofSection", 2, 4).due(30, "sum", 9);
        // on down as well as up, to one that has a CLOUD; what is in the CLOUD is no MUD
        x.tell("permit", 2, 10).tell("dredge", 2, 10, 1).due(30, "ofSection", 1, 4).due(0, "ofSection", 2, 5);
        x.due(3, "ofSection", 2, 4).tell("permit", 2, 3).due(3, "whyNot", 2, 1);
    }

    private static void noPermit() {
        // ahead of there being less MUD, too
        three().due(1, "whyNot", 0, 1).due(1, "whyNot", 0, 100).due(1, "whyNot", 0, 101).due(1, "whyNot", 0, 10000);
        // told as 0, and used up
        Trial x = three().tell("permit", 0, 0).due(1, "whyNot", 0, 1).state("dredge", 0, 1, NONE).tell("permit", 0, 5);
        x.due(0, "dredge", 0, 5, NONE).due(1, "whyNot", 0, 1).state("dredge", 0, 1, NONE).due(95, "ofSection", 0, 5);
        // 1 is left: it is not that
        three().tell("permit", 0, 1).due(2, "whyNot", 0, 2).due(0, "whyNot", 0, 1);
    }

    private static void moreThanLeft() {
        Trial x = three().tell("permit", 0, 60).due(0, "whyNot", 0, 59).due(0, "whyNot", 0, 60).due(2, "whyNot", 0, 61);
        x.state("dredge", 0, 61, NONE).due(0, "dredge", 0, 60, NONE);
        // ahead of there being less MUD: 100
        three().tell("permit", 0, 99).due(2, "whyNot", 0, 100).due(2, "whyNot", 0, 101).due(2, "whyNot", 0, 10000);
        // what is left, not what was told
        three().tell("permit", 0, 60).tell("dredge", 0, 20, NONE).due(0, "whyNot", 0, 40).due(2, "whyNot", 0, 41)
                .state("dredge", 0, 41, NONE).due(0, "dredge", 0, 40, NONE);
    }

    private static void lessMud() {
        Trial x = three().tell("permit", 0, 200).due(0, "whyNot", 0, 99).due(0, "whyNot", 0, 100)
                .due(3, "whyNot", 0, 101);
        x.due(3, "whyNot", 0, 200).due(2, "whyNot", 0, 201).state("dredge", 0, 101, NONE).due(100, "ofSection", 0, 5);
        x.due(100, "dredge", 0, 100, NONE).due(3, "whyNot", 0, 1).due(0, "ofSection", 0, 5);
        // MUD that settles, as it is now: 5 of a CLOUD of 10
        Trial y = new Trial().tell("section", 1, 0, 50, 0).tell("permit", 0, 9).due(3, "whyNot", 0, 1);
        y.tell("river", 0, 10).tell("pass", 1).due(0, "whyNot", 0, 5).due(3, "whyNot", 0, 6);
    }

    private static void lessByIt() {
        Trial x = three().tell("permit", 0, 60).due(40, "dredge", 0, 20, 1).due(39, "dredge", 0, 1, NONE);
        x.due(0, "dredge", 0, 39, 2).due(0, "permit", 0, 0);
        // not by what is refused or asked; not that of the SECTION to which it is brought
        Trial y = three().tell("permit", 0, 60).tell("permit", 1, 5).state("dredge", 0, 61, 1).due(0, "whyNot", 0, 60);
        y.tell("dredge", 0, 50, 1).due(10, "permit", 0, 0).due(5, "permit", 1, 0);
    }
}
