/** What stands under "Sections": their numbers, beds, layers, and what goes with water that flows out. */
public final class SectionsTest {
    public static void main(String[] args) {
        Check.under("Sections");
        Check.sentence("SECTIONS are numbered from 0, at most 8, from the mouth on up; the last one is where the river"
                + " comes in.", SectionsTest::fromTheMouthUp);
        Check.sentence("A SECTION has an area, 1 to 100, MUD, which is its bed, a CLOUD of mud, 0 at first, and two"
                + " layers, UP and LOW, each with WATER, as told, and SALT, 0 at first.", SectionsTest::asTold);
        Check.sentence("Its bed is MUD divided by the area, its depth the WATER of both layers, together, divided by"
                + " the area, both rounded down;", SectionsTest::bedAndDepth);
        Check.sentence("its LEVEL is the bed and the depth, together.", SectionsTest::level);
        Check.sentence("The salinity of a layer is its SALT divided by its WATER, rounded down, 0 without WATER.",
                SectionsTest::salinity);
        Check.sentence("When WATER flows out of a layer, SALT goes with it: the layer's SALT times what flows,"
                + " divided by the layer's WATER ahead of that, rounded down;", SectionsTest::saltGoesWithIt);
        Check.sentence("and out of UP, likewise, of the SECTION's CLOUD: the CLOUD times what flows, divided by that"
                + " WATER.", SectionsTest::cloudGoesWithIt);
        Check.sentence("(No WATER: nothing.)", SectionsTest::noWater);
        Check.end();
    }

    private static void fromTheMouthUp() {
        Promise07Test.mostSections();
        // 25 come from the sea into LOW of 0, 25 / 4 go on; the 7 of the river are in UP of 2
        Trial x = new Trial().tell("section", 1, 0, 0, 0).tell("section", 1, 0, 0, 0).tell("section", 1, 0, 0, 0);
        x.tell("river", 7, 0).tell("pass", 1);
        x.row("ofSection", 0, 0, 0, 19).row("ofSection", 1, 0, 0, 6).row("ofSection", 2, 7, 0, 0);
        // one SECTION is both the mouth and the last one
        Trial one = new Trial().tell("section", 1, 0, 0, 0).tell("river", 7, 0).tell("pass", 1);
        one.row("ofSection", 0, 7, 0, 25);
    }

    private static void asTold() {
        Trial x = new Trial().tell("section", 1, 3, 4, 5).tell("section", 100, 10000, 9999, 9998);
        x.tell("section", 100, 0, 0, 0).tell("section", 1, 10000, 10000, 10000);
        x.row("ofSection", 0, 3, 0, 4, 0, 0, 5, 12, 0, 0, 0);
        x.row("ofSection", 1, 10000, 0, 9999, 0, 0, 9998, 298, 0, 0, 0);
        x.row("ofSection", 2, 0, 0, 0, 0, 0, 0, 0, 0, 0, 0);
        x.row("ofSection", 3, 10000, 0, 10000, 0, 0, 10000, 30000, 0, 0, 0);
        Promise07Test.area();
    }

    private static void bedAndDepth() {
        Trial x = new Trial().tell("section", 7, 6, 7, 13).tell("section", 7, 4, 4, 0).tell("section", 7, 3, 3, 6);
        x.tell("section", 100, 50, 49, 99).tell("section", 100, 50, 50, 100).tell("section", 100, 99, 99, 199);
        // 13 / 7 twice, and not 26 / 7; 8 / 7, and not 4 / 7 twice; 6 / 7 twice
        x.due(2, "ofSection", 0, 6).due(1, "ofSection", 1, 6).due(0, "ofSection", 2, 6);
        x.due(0, "ofSection", 3, 6).due(2, "ofSection", 4, 6).due(2, "ofSection", 5, 6);
        // the bed alone, as keels see it: 13 / 7 and 14 / 7 below a SEA of 50
        new Trial().tell("section", 7, 70, 70, 13).due(0, "window", 49, 1).due(-1, "window", 50, 1);
        new Trial().tell("section", 7, 70, 70, 14).due(0, "window", 48, 1).due(-1, "window", 49, 1);
    }

    private static void level() {
        Trial x = new Trial().tell("section", 7, 0, 0, 14).tell("section", 7, 7, 7, 0).tell("section", 7, 7, 7, 14);
        x.due(2, "ofSection", 0, 6).due(2, "ofSection", 1, 6).due(4, "ofSection", 2, 6);
        // the CLOUD does not count until it settles
        x.tell("permit", 2, 7).tell("dredge", 2, 7, 1).due(3, "ofSection", 2, 6).due(2, "ofSection", 1, 6);
    }

    /** LOW has WATER as told, and so many more that come from a SEA which is twice as many above. */
    private static Trial seaWater(int water, int comes) {
        return new Trial().tell("section", 1, 0, water, 0).tell("mean", water + 2 * comes).tell("pass", 1);
    }

    private static void salinity() {
        seaWater(28, 1).row("ofSection", 0, 0, 0, 29, 30).due(1, "ofSection", 0, 8);
        seaWater(29, 1).row("ofSection", 0, 0, 0, 30, 30).due(1, "ofSection", 0, 8);
        seaWater(30, 1).row("ofSection", 0, 0, 0, 31, 30).due(0, "ofSection", 0, 8);
        seaWater(58, 2).due(1, "ofSection", 0, 8);
        seaWater(28, 2).due(2, "ofSection", 0, 8);
        seaWater(29, 2).due(1, "ofSection", 0, 8);
        seaWater(0, 1).due(30, "ofSection", 0, 8).due(0, "ofSection", 0, 7);
        // UP of 0 by the mixing of an hour: 150 / 20, LOW 4050 / 140, and none of either in UP of 1
        Trial x = mixed();
        x.due(7, "ofSection", 0, 7).due(28, "ofSection", 0, 8).due(0, "ofSection", 1, 7).due(30, "ofSection", 1, 8);
        new Trial().tell("section", 1, 0, 0, 0).due(0, "ofSection", 0, 7).due(0, "ofSection", 0, 8);
    }

    /** Behind one hour: 20 WATER with 150 SALT in UP of 0, 140 with 4050 in LOW; 52 with 1560 in LOW of 1. */
    static Trial mixed() {
        // LEVEL 2, d 48: 192 come with 5760; LEVEL 26: 52 flow with 1560; m is 5, s is 4200 * 5 / 140
        return new Trial().tell("section", 8, 20, 0, 0).tell("section", 8, 0, 0, 0).tell("pass", 1);
    }

    private static void saltGoesWithIt() {
        // 10 come with 300: 110; the LEVELS are 110 and 70: 10 flow with 300 * 10 / 110, and not 300 * 10 / 100
        Trial x = new Trial().tell("section", 1, 0, 100, 0).tell("section", 1, 0, 70, 0).tell("mean", 100);
        x.tell("surge", 0, 0, 20).tell("pass", 1).row("ofSection", 0, 0, 0, 100, 273).row("ofSection", 1, 0, 0, 80, 27);
        // as much as there can be: 105000 come, 26250 of them flow on
        Trial high = new Trial().tell("mean", 100).tell("section", 100, 0, 0, 0).tell("section", 100, 0, 0, 0);
        for (int i = 0; i < 20; i++) {
            high.tell("surge", 0, 0, 100);
        }
        high.tell("pass", 1).row("ofSection", 0, 0, 0, 78750, 2362500).row("ofSection", 1, 0, 0, 26250, 787500);
        // out of UP: a SEA that is 3 below takes 12 of 20 with 150 * 12 / 20; one that is 1 below 4, with 30
        mixed().tell("mean", 17).tell("pass", 1).due(12, "sum", 1).due(90, "sum", 5);
        mixed().tell("mean", 19).tell("pass", 1).due(4, "sum", 1).due(30, "sum", 5);
        // a WATER of 1 takes all SALT: LOW of 0 has 1 with 30, and it flows on
        Trial least = new Trial().tell("mean", 7).tell("section", 1, 5, 0, 0).tell("section", 1, 0, 0, 0);
        least.tell("pass", 1).row("ofSection", 0, 5, 0, 0, 0).row("ofSection", 1, 0, 0, 1, 30);
        // all WATER takes all SALT
        mixed().tell("mean", 0).tell("pass", 1).due(20, "sum", 1).due(150, "sum", 5).due(0, "ofSection", 0, 1);
        // an intake takes 3 of 20 with 257 * 3 / 20, which is 38 and some
        Trial y = mixed().tell("barrier", 0, 0).tell("intake", 0, 3, 30, 9, 0).tell("pass", 1);
        y.due(38, "sum", 6).row("ofSection", 0, 17, 219);
    }

    /** UP 100 WATER, LOW 50, a CLOUD of 10, of an area of 3, and a SECTION behind it that nothing flows out of. */
    private static Trial cloudy() {
        Trial x = new Trial().tell("section", 3, 100, 50, 0).tell("section", 100, 0, 0, 10000);
        return x.tell("permit", 1, 10).tell("dredge", 1, 10, 0);
    }

    private static void cloudGoesWithIt() {
        // 75 of 100 leave with 10 * 75 / 100; half of the other 3 settles, rounded up
        cloudy().tell("mean", 0).tell("pass", 1).due(75, "sum", 1).due(7, "sum", 8)
                .row("ofSection", 0, 25, 0, 50, 0, 1, 2);
        // 72 leave with 7, 69 with 6
        cloudy().tell("mean", 2).tell("pass", 1).due(72, "sum", 1).due(7, "sum", 8);
        cloudy().tell("mean", 4).tell("pass", 1).due(69, "sum", 1).due(6, "sum", 8);
        // all WATER of UP takes all CLOUD
        cloudy().tell("mean", 0).tell("surge", 0, 0, -50).tell("pass", 1).due(100, "sum", 1).due(10, "sum", 8);
        // a WATER of 1 takes all CLOUD
        Trial least = new Trial().tell("mean", 0).tell("section", 1, 1, 9, 0).tell("section", 1, 0, 0, 10);
        least.tell("permit", 1, 7).tell("dredge", 1, 7, 0).tell("pass", 1).due(1, "sum", 1).due(7, "sum", 8);
        // none goes with what flows out of LOW: 12 flow from 0 to 1, and no CLOUD settles by a RUN of 12
        Trial x = new Trial().tell("barrier", 0, 0).tell("section", 4, 0, 100, 0).tell("section", 4, 0, 52, 8);
        x.tell("permit", 1, 8).tell("dredge", 1, 8, 0).tell("pass", 1);
        x.row("ofSection", 0, 0, 0, 88, 0, 8, 0).row("ofSection", 1, 0, 0, 64, 0, 0, 0).due(12, "ofSection", 0, 9);
    }

    private static void noWater() {
        // B: a SEA below the LEVEL of a SECTION whose UP is empty; its CLOUD stays there
        Trial x = new Trial().tell("mean", 0).tell("section", 1, 0, 50, 0).tell("section", 1, 0, 0, 80);
        x.tell("permit", 1, 10).tell("dredge", 1, 10, 0).tell("pass", 1);
        x.due(0, "sum", 1).due(0, "sum", 5).due(0, "sum", 8).row("ofSection", 0, 0, 0, 50, 0, 5, 5);
        // D: LEVELS apart, but LOW of 0 is empty; then UP of 1
        Trial low = new Trial().tell("barrier", 0, 0).tell("section", 1, 80, 0, 0).tell("section", 1, 0, 0, 0);
        low.tell("pass", 1).row("ofSection", 0, 80, 0, 0, 0).row("ofSection", 1, 0, 0, 0, 0).due(0, "ofSection", 1, 9);
        Trial up = new Trial().tell("barrier", 0, 0).tell("section", 1, 0, 0, 90).tell("section", 1, 0, 200, 0);
        up.tell("permit", 0, 10).tell("dredge", 0, 10, 1).tell("pass", 1);
        up.row("ofSection", 0, 0, 0, 0, 0, 0, 80).row("ofSection", 1, 0, 0, 200, 0, 5, 5).due(0, "ofSection", 0, 9);
        // E: a RUN of 52, but no UP in 1 to mix with
        mixed().row("ofSection", 1, 0, 0, 52, 1560);
        // a SECTION without any WATER
        Trial dry = new Trial().tell("mean", 0).tell("section", 1, 0, 0, 0).tell("pass", 3);
        dry.row("ofSection", 0, 0, 0, 0, 0, 0, 0, 0, 0, 0, 0);
    }
}
