/** Promise 41. */
final class UndoEdges {
    private static final Check CHECK = EdgeTests.check();
    private static final Twins TWINS = new Twins(CHECK);
    private static final int NONE = ColourHouse.NONE;

    private UndoEdges() {
    }

    /** An act and its undo() leave the rich bench as it was, but for trouble(), which the act made 0. */
    private static void takenBack(String act, Twins.Call c) {
        TWINS.refusedOnRich(act + " and undo()", x -> {
            int acts = x.count(7);
            CHECK.yes(act + " is accepted", c.on(x) != NONE);
            CHECK.same("trouble() behind it", x.trouble(), 0);
            CHECK.same("it is an act", x.count(7), acts + 1);
            return x.undo();
        }, 1, 0);
    }

    static void promise41_eachAct() {
        CHECK.says("Acts: chip, cloth, dye, strength, cents, blend, solid, lot, batch, weigh, measured, remeasure.");
        takenBack("chip()", x -> x.chip());
        takenBack("cloth()", x -> x.cloth());
        takenBack("dye(1)", x -> x.dye(1));
        takenBack("strength(0, 201)", x -> x.strength(0, 201));
        takenBack("strength(1, 100000)", x -> x.strength(1, 100000));
        takenBack("cents(0, 100000)", x -> x.cents(0, 100000) ? 1 : NONE);
        takenBack("cents(0, 7), which they are", x -> x.cents(0, 7) ? 1 : NONE);
        takenBack("blend(0, 1, 1, 2)", x -> x.blend(0, 1, 1, 2));
        takenBack("solid", x -> x.solid(0, 3, 5, 1, 1000, 1, 1000));
        takenBack("lot(1, 3, 4, 5)", x -> x.lot(1, 3, 4, 5));
        takenBack("batch(1, 1000)", x -> x.batch(1, 1000));
        takenBack("weigh(0, 0, 30) of a lot that it has", x -> x.weigh(0, 0, 30));
        takenBack("weigh(0, 1, 85) of a new lot", x -> x.weigh(0, 1, 85));
        takenBack("measured(0) again", x -> x.measured(0) ? 1 : NONE);
        takenBack("measured(1)", x -> x.measured(1) ? 1 : NONE);
        takenBack("remeasure(0)", x -> x.remeasure(0) ? 1 : NONE);
        takenBack("remeasure(1) again", x -> x.remeasure(1) ? 1 : NONE);
    }

    static void promise41_notActs() {
        CHECK.says("The latest act that was accepted");
        ColourHouse x = new ColourHouse();
        Bench.rich(x);
        Twins.Call[] others = {y -> y.bands(0, 1, 1, 1, 1) ? 1 : 0, y -> y.pick(2, 0) ? 1 : 0,
            y -> y.part(false, 0, 1), y -> y.predict(0) ? 1 : 0, y -> y.light(0, 0, 1) ? 1 : 0,
            y -> y.eye(0, 0, 0, 1) ? 1 : 0, y -> y.measure(1, 1, 1) ? 1 : 0, y -> y.recipe(0, 0, 0, 0, 1, 1, 1, 1),
            y -> y.correct(0, 0, 0, 0, 1, 1), y -> y.pack(0, 0), y -> y.letter(0, 1) ? 1 : 0, y -> y.post() ? 1 : 0,
            y -> y.unpack() ? 1 : 0, y -> y.chip() + y.undo(),
            // and acts that are refused
            y -> y.dye(9), y -> y.strength(0, 200), y -> y.cents(0, -1) ? 1 : 0, y -> y.blend(0, 1, 3, 2),
            y -> y.solid(2, 0, 0, 0, 1, 1, 1), y -> y.lot(0, 0, 1, 1), y -> y.batch(0, 0), y -> y.weigh(0, 0, 31),
            y -> y.measured(9) ? 1 : 0, y -> y.remeasure(9) ? 1 : 0};
        for (int n = 0; n < others.length; n++) {
            others[n].on(x);
            CHECK.same("count(7) behind other " + n, x.count(7), 23);
        }
        CHECK.same("undo()", x.undo(), 1);
        CHECK.same("the latest act was measured(0)", x.told(0, 8), 0);
        CHECK.same("undo()", x.undo(), 1);
        CHECK.same("ahead of it weigh(1, 1, 5)", x.told(1, 6), 0);
    }

    static void promise41_noneThere() {
        CHECK.says("0 if there is none.");
        ColourHouse x = new ColourHouse();
        CHECK.same("undo() of nothing", x.undo(), 0);
        CHECK.same("count(7)", x.count(7), 0);
        x.chip();
        CHECK.same("undo() of a chip", x.undo(), 1);
        CHECK.same("and again", x.undo(), 0);
        CHECK.same("and again", x.undo(), 0);
        CHECK.same("count(7)", x.count(7), 0);
        CHECK.same("chip()", x.chip(), 0);
        CHECK.same("count(7)", x.count(7), 1);
        TWINS.refused(y -> {
            Bench.fullSight(y);
            Bench.slope(y, 0.4f);
            y.cloth();
            y.undo();
            y.measure(0, 0, 0);
        }, "undo()", y -> y.undo(), 0, 3);
    }

    static void promise41_sixtyAtMost() {
        CHECK.says("and not taken back (of a sixty at most), is taken back: 1");
        int[] acts = {59, 60, 61, 119, 120, 121, 130};
        for (int n : acts) {
            ColourHouse x = new ColourHouse();
            x.chip();
            for (int k = 2; k <= n; k++) {
                x.bands(0, k, k, k, k);
                x.remeasure(0);
            }
            int due = Math.min(n, 60);
            CHECK.same("count(7) of " + n, x.count(7), due);
            for (int k = 1; k <= due && k < n; k++) {
                CHECK.same("undo() " + k + " of " + n, x.undo(), 1);
                CHECK.same("its band", x.band(1, 0, 3), n - k == 1 ? 0 : n - k);
            }
            if (n <= 60) {
                CHECK.same("undo() of the chip", x.undo(), 1);
            }
            CHECK.same("no more of " + n, x.undo(), 0);
            CHECK.same("count(0)", x.count(0), n <= 60 ? 0 : 1);
        }
    }

    static void promise41_sixtyBackAndForth() {
        CHECK.says("The latest act that was accepted, and not taken back (of a sixty at most)");
        ColourHouse x = new ColourHouse();
        x.cloth();
        x.dye(0);
        for (int c = 1; c <= 70; c++) {
            x.cents(0, c);
        }
        for (int c = 69; c >= 40; c--) {
            CHECK.same("undo()", x.undo(), 1);
            CHECK.same("its cents", x.told(0, 11), c);
        }
        // 30 are left; 40 more are ten too many
        for (int c = 101; c <= 140; c++) {
            x.cents(0, c);
        }
        CHECK.same("count(7)", x.count(7), 60);
        for (int c = 139; c >= 101; c--) {
            CHECK.same("undo()", x.undo(), 1);
            CHECK.same("its cents", x.told(0, 11), c);
        }
        for (int c = 40; c >= 20; c--) {
            CHECK.same("undo()", x.undo(), 1);
            CHECK.same("its cents", x.told(0, 11), c);
        }
        CHECK.same("no more", x.undo(), 0);
        CHECK.same("it stays", x.told(0, 11), 20);
    }

    static void promise41_numberIsFree() {
        CHECK.says("and all it changed is as ahead of it (the number it gave is free again)");
        ColourHouse x = new ColourHouse();
        Bench.rich(x);
        int[] kinds = {0, 1, 2, 3, 4, 5, 0};
        Twins.Call[] makes = {y -> y.chip(), y -> y.cloth(), y -> y.dye(0), y -> y.solid(0, 0, 0, 0, 1, 1, 1),
            y -> y.lot(0, 1, 1, 1), y -> y.batch(0, 1), y -> y.blend(0, 1, 1, 2)};
        for (int n = 0; n < kinds.length; n++) {
            int there = x.count(kinds[n]);
            for (int times = 0; times < 3; times++) {
                CHECK.same("the number of kind " + kinds[n], makes[n].on(x), there);
                CHECK.same("undo()", x.undo(), 1);
                CHECK.same("count(" + kinds[n] + ")", x.count(kinds[n]), there);
            }
        }
        CHECK.same("a chip that isn't there", x.band(1, 4, 0), 0);
        CHECK.same("a cloth that isn't there", x.band(2, 2, 0), 0);
        CHECK.same("a dye that isn't there", x.told(2, 9), NONE);
        CHECK.same("a solid that isn't there", x.inside(2, 0), NONE);
        CHECK.same("a lot that isn't there", x.told(2, 0), NONE);
        CHECK.same("a batch that isn't there", x.told(2, 4), NONE);
    }

    /** What is made anew under a number has nothing of what bore it ahead. */
    static void promise41_madeAnew() {
        CHECK.says("(the number it gave is free again)");
        ColourHouse x = new ColourHouse();
        Bench.plainSight(x);
        Bench.flatCloth(x, 0.9f);
        Bench.flatChip(x, 0.5f);
        Bench.flat(x, 0.25f);
        x.remeasure(0);
        x.dye(0);
        Bench.flatStrength(x, 0, 10, 0.1f);
        x.cents(0, 9);
        x.lot(0, 1, 2, 9000);
        x.batch(0, 10);
        x.weigh(0, 0, 5);
        x.measured(0);
        x.solid(0, 0, 0, 0, 1000, 1000, 1000);
        while (x.undo() == 1) {
            CHECK.yes("acts are left", x.count(7) >= 0);
        }
        Bench.flatCloth(x, 0.8f);
        CHECK.same("a chip", Bench.flatChip(x, 1), 0);
        CHECK.same("without a DRIFT", x.band(4, 0, 0), 0);
        CHECK.bits("of its own bands", x.band(1, 0, 0), 1f);
        CHECK.same("a dye", x.dye(0), 0);
        CHECK.same("without STRENGTHS", x.told(0, 10), 0);
        CHECK.same("without cents", x.told(0, 11), 0);
        CHECK.same("a STRENGTH of fewer grams", Bench.flatStrength(x, 0, 5, 0.2f), 1);
        CHECK.same("a lot", x.lot(0, 1, 1, 3000), 0);
        CHECK.same("with all its stock", x.told(0, 1), 3000);
        CHECK.same("without WEIGHINGS", x.told(0, 2), 0);
        CHECK.same("a batch", x.batch(0, 20), 0);
        CHECK.same("without LOTS", x.told(0, 6), 0);
        CHECK.same("without grams", x.told(0, 7), 0);
        CHECK.same("not measured", x.told(0, 8), 0);
        CHECK.same("not measured", x.band(5, 0, 0), 0);
        CHECK.same("its first WEIGHING", x.weigh(0, 0, 2), 2);
        CHECK.same("a solid", x.solid(1, 0, 0, 0, 1, 1, 1), 0);
        CHECK.same("about its own chip", x.inside(0, 0), 1);
        x.part(false, 0, 5);
        x.predict(0);
        CHECK.bits("by its own STRENGTH, on its own cloth", x.band(3, 0, 0), 0.2f);
    }

    static void promise41_whatStays() {
        CHECK.says("and all it changed is as ahead of it");
        ColourHouse x = new ColourHouse();
        Bench.plainSight(x);
        x.measure(2, 3, 4);
        Bench.flatCloth(x, 1);
        x.dye(0);
        Bench.flatStrength(x, 0, 10, 0.5f);
        x.part(false, 0, 10);
        x.predict(0);
        x.part(false, 0, 5);
        Bench.flatChip(x, 0.5f);
        x.recipe(0, 0, 0, 0, 1, 1, 10, 1);
        x.pack(0, 0);
        x.measure(0, 0, 0);
        while (x.undo() == 1) {
            CHECK.yes("acts are left", x.count(7) >= 0);
        }
        CHECK.bits("THE ROW", x.band(0, 0, 0), 0.5f);
        CHECK.bits("the PREDICTION", x.band(3, 0, 0), 0.5f);
        CHECK.same("the PARTS", x.count(6), 1);
        CHECK.same("the recipe", x.recipeOf(2), 0);
        CHECK.same("OUT", x.count(8), 68);
        CHECK.same("trouble()", x.trouble(), 3);
        Bench.flatChip(x, 1);
        Bench.flatChip(x, 0.25f);
        CHECK.bits("LIGHTS, EYES, THE MEASURE", x.distance(0, 1, 0, 0), 5000.0);
    }
}
