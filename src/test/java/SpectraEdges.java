/** Promises 1 to 10, and the spectra of term II. */
final class SpectraEdges {
    private static final Check CHECK = EdgeTests.check();
    private static final Twins TWINS = new Twins(CHECK);
    private static final int NONE = ColourHouse.NONE;
    private static final int KEPT = Twins.KEPT;
    private static final int LEAST = Integer.MIN_VALUE;
    private static final int GREATEST = Integer.MAX_VALUE;

    private SpectraEdges() {
    }

    static void term2_rowAtFirst() {
        CHECK.says("THE ROW: 16 floats, 0 at first.");
        ColourHouse x = new ColourHouse();
        for (int k = 0; k < 16; k++) {
            CHECK.same("band(0, 0, " + k + ")", x.band(0, 0, k), 0);
        }
        CHECK.same("chip()", x.chip(), 0);
        CHECK.same("a chip of it", x.band(1, 0, 15), 0);
    }

    static void term2_copies() {
        CHECK.says("A CHIP, a CLOTH are copies of it");
        ColourHouse x = new ColourHouse();
        Bench.slope(x, 0.25f);
        x.chip();
        x.cloth();
        Bench.flat(x, 1);
        for (int k = 0; k < 16; k++) {
            float due = 0.25f + 0.04f * (k / 4) + new float[] {0, 0.01f, 0.02f, 0.03f}[k % 4];
            CHECK.bits("band(1, 0, " + k + ")", x.band(1, 0, k), due);
            CHECK.bits("band(2, 0, " + k + ")", x.band(2, 0, k), due);
        }
        x.remeasure(0);
        CHECK.bits("the cloth isn't the chip", x.band(2, 0, 0), 0.25f);
    }

    static void term2_grams() {
        CHECK.says("whole GRAMS 1 .. 100,000, more than the STRENGTH ahead has");
        ColourHouse x = new ColourHouse();
        x.cloth();
        for (int dye = 0; dye < 3; dye++) {
            x.dye(0);
        }
        CHECK.refused("strength(0, 0)", x, x.strength(0, 0), 3);
        CHECK.same("strength(0, 1)", x.strength(0, 1), 1);
        CHECK.refused("strength(1, 100001)", x, x.strength(1, 100001), 3);
        CHECK.same("strength(1, 100000)", x.strength(1, 100000), 1);
        CHECK.same("strength(2, 500)", x.strength(2, 500), 1);
        CHECK.refused("strength(2, 499)", x, x.strength(2, 499), 3);
        CHECK.refused("strength(2, 500)", x, x.strength(2, 500), 3);
        CHECK.same("strength(2, 501)", x.strength(2, 501), 2);
        x.undo();
        CHECK.same("after undo() strength(2, 501)", x.strength(2, 501), 2);
        CHECK.refused("then strength(2, 501)", x, x.strength(2, 501), 3);
        CHECK.same("another dye's own", x.strength(0, 2), 2);
    }

    static void promise01_rowIsZero() {
        CHECK.says("THE ROW is 0; nothing else.");
        ColourHouse x = new ColourHouse();
        for (int k = 0; k < 16; k++) {
            CHECK.same("band(0, 0, " + k + ")", x.band(0, 0, k), 0);
        }
        for (int what = 0; what <= 8; what++) {
            CHECK.same("count(" + what + ")", x.count(what), 0);
            CHECK.same("recipeOf(" + what + ")", x.recipeOf(what), NONE);
            CHECK.same("recipeBy(" + what + ")", x.recipeBy(what), 0);
            CHECK.same("addition(" + what + ")", x.addition(what), NONE);
        }
        for (int sort = 1; sort <= 5; sort++) {
            CHECK.same("band(" + sort + ", 0, 0)", x.band(sort, 0, 0), 0);
        }
        for (int what = 0; what <= 11; what++) {
            CHECK.same("told(0, " + what + ")", x.told(0, what), NONE);
        }
        CHECK.same("nearest(0, 0, 0)", x.nearest(0, 0, 0), NONE);
        CHECK.same("weighed(0, 0, true)", x.weighed(0, 0, true), NONE);
        CHECK.same("trouble()", x.trouble(), 0);
        CHECK.no("post()", x.post());
        CHECK.same("undo()", x.undo(), 0);
        CHECK.denied("unpack()", x, x.unpack(), 5);
    }

    static void promise02_bandsBecome() {
        CHECK.says("Bands 4 k .. 4 k + 3 of THE ROW become these FLOATS: true");
        for (int k = 0; k <= 3; k++) {
            ColourHouse x = new ColourHouse();
            CHECK.yes("bands(" + k + ", 1, 2, 3, 4)", x.bands(k, 1, 2, 3, 4));
            for (int band = 0; band < 16; band++) {
                CHECK.same("band " + band, x.band(0, 0, band), band / 4 == k ? band % 4 + 1 : 0);
            }
        }
    }

    static void promise02_oneIsNotTaken() {
        CHECK.says("false, and it stays, if one isn't taken");
        int[] wrong = {LEAST, 0x40000001, -1};
        for (int w : wrong) {
            TWINS.refusedOnRich("bands(0, " + w + ", 1, 1, 1)", x -> x.bands(0, w, 1, 1, 1) ? 1 : 0, 0, KEPT);
            TWINS.refusedOnRich("bands(1, 1, " + w + ", 1, 1)", x -> x.bands(1, 1, w, 1, 1) ? 1 : 0, 0, KEPT);
            TWINS.refusedOnRich("bands(2, 1, 1, " + w + ", 1)", x -> x.bands(2, 1, 1, w, 1) ? 1 : 0, 0, KEPT);
            TWINS.refusedOnRich("bands(3, 1, 1, 1, " + w + ")", x -> x.bands(3, 1, 1, 1, w) ? 1 : 0, 0, KEPT);
        }
    }

    static void promise02_kIsNone() {
        CHECK.says("or k is none of 0 .. 3");
        // four times 1073741824 wraps to 0
        int[] wrong = {-1, 4, LEAST, GREATEST, 1073741824, -1073741824};
        for (int k : wrong) {
            TWINS.refusedOnRich("bands(" + k + ", 1, 1, 1, 1)", x -> x.bands(k, 1, 1, 1, 1) ? 1 : 0, 0, KEPT);
        }
    }

    private static void fillChips(ColourHouse x) {
        for (int i = x.count(0); i < 40; i++) {
            x.chip();
        }
    }

    static void promise03_ifThereAreForty() {
        CHECK.says("NONE (trouble 1) if there are 40.");
        ColourHouse x = new ColourHouse();
        for (int i = 0; i < 39; i++) {
            x.chip();
        }
        CHECK.same("the fortieth", x.chip(), 39);
        CHECK.same("its trouble()", x.trouble(), 0);
        CHECK.refused("the forty-first", x, x.chip(), 1);
        x.undo();
        CHECK.same("the fortieth again", x.chip(), 39);
        TWINS.refusedOnRich(SpectraEdges::fillChips, "chip()", y -> y.chip(), NONE, 1);
    }

    static void promise03_itsNumber() {
        CHECK.says("THE ROW is a new CHIP: its number");
        ColourHouse x = new ColourHouse();
        for (int i = 0; i < 40; i++) {
            x.bands(2, i + 1, 2, 3, 4);
            CHECK.same("chip()", x.chip(), i);
            CHECK.same("trouble()", x.trouble(), 0);
            CHECK.same("count(7)", x.count(7), i + 1);
        }
        for (int i = 0; i < 40; i++) {
            CHECK.same("band(1, " + i + ", 8)", x.band(1, i, 8), i + 1);
        }
        CHECK.same("without a drift", x.band(4, 39, 8), 0);
    }

    static void promise04_ifThereAreEight() {
        CHECK.says("NONE (1) if there are 8.");
        ColourHouse x = new ColourHouse();
        for (int i = 0; i < 7; i++) {
            x.cloth();
        }
        x.bands(3, 9, 8, 7, 6);
        CHECK.same("the eighth", x.cloth(), 7);
        CHECK.same("its trouble()", x.trouble(), 0);
        CHECK.same("it is THE ROW", x.band(2, 7, 15), 6);
        CHECK.refused("the ninth", x, x.cloth(), 1);
        x.undo();
        CHECK.same("the eighth again", x.cloth(), 7);
        TWINS.refusedOnRich(y -> {
            for (int i = 2; i < 8; i++) {
                y.cloth();
            }
        }, "cloth()", y -> y.cloth(), NONE, 1);
    }

    static void promise05_noSuchCloth() {
        CHECK.says("NONE, trouble 2 if there is no such cloth");
        ColourHouse x = new ColourHouse();
        CHECK.refused("dye(0) without cloths", x, x.dye(0), 2);
        int[] none = {-1, 2, 8, LEAST, GREATEST};
        for (int c : none) {
            TWINS.refusedOnRich("dye(" + c + ")", y -> y.dye(c), NONE, 2);
        }
        CHECK.same("the first cloth", x.cloth(), 0);
        CHECK.same("dye(0)", x.dye(0), 0);
        x.cloth();
        CHECK.same("dye(1)", x.dye(1), 1);
        x.undo();
        x.undo();
        CHECK.refused("dye(1) of a cloth that was taken back", x, x.dye(1), 2);
    }

    private static void fillDyes(ColourHouse x) {
        for (int i = x.count(2); i < 12; i++) {
            x.dye(0);
        }
    }

    static void promise05_ifThereAreTwelve() {
        CHECK.says("else 1 if there are 12.");
        ColourHouse x = new ColourHouse();
        x.cloth();
        for (int i = 0; i < 11; i++) {
            x.dye(0);
        }
        CHECK.same("the twelfth", x.dye(0), 11);
        CHECK.same("its trouble()", x.trouble(), 0);
        CHECK.refused("the thirteenth", x, x.dye(0), 1);
        CHECK.refused("the thirteenth on no cloth", x, x.dye(1), 2);
        TWINS.refusedOnRich(SpectraEdges::fillDyes, "dye(1)", y -> y.dye(1), NONE, 1);
        TWINS.refusedOnRich(SpectraEdges::fillDyes, "dye(2)", y -> y.dye(2), NONE, 2);
    }

    static void promise05_withoutStrengths() {
        CHECK.says("A new DYE without STRENGTHS on a cloth: its number");
        ColourHouse x = new ColourHouse();
        x.cloth();
        x.cloth();
        x.dye(0);
        x.strength(0, 100000);
        x.cents(0, 5);
        x.undo();
        x.undo();
        x.undo();
        CHECK.same("dye(1)", x.dye(1), 0);
        CHECK.same("its cloth", x.told(0, 9), 1);
        CHECK.same("its strengths", x.told(0, 10), 0);
        CHECK.same("its cents", x.told(0, 11), 0);
        CHECK.same("the least grams are more than none", x.strength(0, 1), 1);
    }

    static void promise06_noSuchDye() {
        CHECK.says("NONE, trouble 2 if there is no such DYE");
        ColourHouse x = new ColourHouse();
        x.cloth();
        CHECK.refused("strength(0, 1) without dyes", x, x.strength(0, 1), 2);
        int[] none = {-1, 2, 12, LEAST, GREATEST};
        for (int d : none) {
            TWINS.refusedOnRich("strength(" + d + ", 1)", y -> y.strength(d, 1), NONE, 2);
            CHECK.refused("strength(" + d + ", 0)", x, x.strength(d, 0), 2);
        }
    }

    /** Makes dye 1 of the rich bench one of six strengths, the last of 90 grams. */
    private static void fillStrengths(ColourHouse x) {
        for (int g = 86; g <= 90; g++) {
            x.strength(1, g);
        }
    }

    static void promise06_otherGrams() {
        CHECK.says("else 3 for other GRAMS");
        int[] wrong = {0, -1, 79, 80, 100001, LEAST, GREATEST};
        for (int g : wrong) {
            TWINS.refusedOnRich("strength(1, " + g + ")", x -> x.strength(1, g), NONE, 3);
        }
        int[] wrongOfFull = {0, 90, 100001};
        for (int g : wrongOfFull) {
            TWINS.refusedOnRich(SpectraEdges::fillStrengths, "strength(1, " + g + ") with six",
                x -> x.strength(1, g), NONE, 3);
        }
    }

    static void promise06_ifItHasSix() {
        CHECK.says("else 1 if it has 6.");
        ColourHouse x = new ColourHouse();
        x.cloth();
        x.dye(0);
        for (int n = 1; n <= 5; n++) {
            x.strength(0, n);
        }
        CHECK.same("the sixth", x.strength(0, 99999), 6);
        CHECK.same("its trouble()", x.trouble(), 0);
        CHECK.refused("the seventh", x, x.strength(0, 100000), 1);
        x.undo();
        CHECK.same("the sixth again", x.strength(0, 6), 6);
        TWINS.refusedOnRich(SpectraEdges::fillStrengths, "strength(1, 91)", y -> y.strength(1, 91), NONE, 1);
        TWINS.refusedOnRich(SpectraEdges::fillStrengths, "strength(1, 100000)", y -> y.strength(1, 100000), NONE, 1);
    }

    static void promise06_howManyItHas() {
        CHECK.says("THE ROW is the next STRENGTH of a DYE: how many it has");
        ColourHouse x = new ColourHouse();
        x.cloth();
        x.dye(0);
        x.dye(0);
        for (int n = 1; n <= 6; n++) {
            CHECK.same("strength of dye 1", x.strength(1, n * 10), n);
            CHECK.same("told(1, 10)", x.told(1, 10), n);
            CHECK.same("told(0, 10)", x.told(0, 10), 0);
            CHECK.same("trouble()", x.trouble(), 0);
        }
    }

    static void promise07_centsBecome() {
        CHECK.says("A DYE's cents for a gram become c (0 .. 100,000): true");
        ColourHouse x = new ColourHouse();
        x.cloth();
        x.dye(0);
        x.dye(0);
        int[] edges = {100000, 0, 1, 99999};
        for (int c : edges) {
            x.measure(0, 0, 0);
            CHECK.yes("cents(1, " + c + ")", x.cents(1, c));
            CHECK.same("trouble()", x.trouble(), 0);
            CHECK.same("told(1, 11)", x.told(1, 11), c);
        }
        CHECK.same("the other dye's", x.told(0, 11), 0);
    }

    static void promise07_noSuchDye() {
        CHECK.says("false, trouble 2 if there is no such DYE");
        int[] none = {-1, 2, 12, LEAST, GREATEST};
        for (int d : none) {
            TWINS.refusedOnRich("cents(" + d + ", 0)", x -> x.cents(d, 0) ? 1 : 0, 0, 2);
            TWINS.refusedOnRich("cents(" + d + ", -1)", x -> x.cents(d, -1) ? 1 : 0, 0, 2);
        }
        ColourHouse empty = new ColourHouse();
        CHECK.denied("cents(0, 0) without dyes", empty, empty.cents(0, 0), 2);
    }

    static void promise07_otherCents() {
        CHECK.says("else 3.");
        int[] wrong = {-1, 100001, LEAST, GREATEST};
        for (int c : wrong) {
            TWINS.refusedOnRich("cents(0, " + c + ")", x -> x.cents(0, c) ? 1 : 0, 0, 3);
        }
    }

    static void promise08_firstSorts() {
        CHECK.says("sort 0 THE ROW, 1 CHIP i, 2 CLOTH i");
        ColourHouse x = new ColourHouse();
        x.bands(0, 11, 0, 0, 0);
        x.chip();
        x.bands(0, 12, 0, 0, 0);
        x.chip();
        x.bands(0, 21, 0, 0, 0);
        x.cloth();
        x.bands(0, 22, 0, 0, 0);
        x.cloth();
        x.bands(0, 33, 0, 0, 44);
        int[] any = {LEAST, -1, 0, 1, GREATEST};
        for (int i : any) {
            CHECK.same("band(0, " + i + ", 0)", x.band(0, i, 0), 33);
            CHECK.same("band(0, " + i + ", 3)", x.band(0, i, 3), 44);
        }
        CHECK.same("band(1, 0, 0)", x.band(1, 0, 0), 11);
        CHECK.same("band(1, 1, 0)", x.band(1, 1, 0), 12);
        CHECK.same("band(2, 0, 0)", x.band(2, 0, 0), 21);
        CHECK.same("band(2, 1, 0)", x.band(2, 1, 0), 22);
    }

    static void promise08_latestPrediction() {
        CHECK.says("3 the PREDICTION (of the latest predict() that was accepted; there is none such ahead of it)");
        ColourHouse x = new ColourHouse();
        Bench.flatCloth(x, 1);
        CHECK.no("predict(1)", x.predict(1));
        CHECK.same("none such ahead of it", x.band(3, 0, 0), 0);
        CHECK.denied("pick(3, 0)", x, x.pick(3, 0), 2);
        CHECK.yes("predict(0)", x.predict(0));
        CHECK.bits("band(3, 0, 0)", x.band(3, 0, 0), 1f);
        CHECK.bits("band(3, -1, 15)", x.band(3, -1, 15), 1f);
        x.dye(0);
        Bench.flatStrength(x, 0, 1, 0.5f);
        x.part(false, 0, 1);
        CHECK.no("predict(2)", x.predict(2));
        CHECK.bits("one that wasn't accepted", x.band(3, 0, 0), 1f);
        x.predict(0);
        CHECK.bits("the latest", x.band(3, 0, 0), 0.5f);
        x.undo();
        x.undo();
        x.undo();
        CHECK.bits("its cloth taken back", x.band(3, 0, 0), 0.5f);
    }

    static void promise08_drift() {
        CHECK.says("4 the DRIFT of CHIP i");
        ColourHouse x = new ColourHouse();
        Bench.flatChip(x, 0.5f);
        Bench.flatChip(x, 0.25f);
        CHECK.same("ahead of it", x.band(4, 0, 0), 0);
        Bench.four(x, 2, 0, 0.5f, 0.5f);
        x.remeasure(0);
        CHECK.bits("band(4, 0, 0)", x.band(4, 0, 0), 1.5f);
        CHECK.bits("band(4, 0, 1)", x.band(4, 0, 1), -0.5f);
        CHECK.same("nothing is 0, not -0", x.band(4, 0, 2), 0);
        CHECK.bits("band(4, 0, 15)", x.band(4, 0, 15), -0.5f);
        CHECK.same("another chip's", x.band(4, 1, 0), 0);
        CHECK.same("no such chip", x.band(4, 2, 0), 0);
    }

    static void promise08_measured() {
        CHECK.says("5 what BATCH i was measured as");
        ColourHouse x = new ColourHouse();
        Bench.flatCloth(x, 0.5f);
        x.batch(0, 1);
        x.batch(0, 1);
        CHECK.same("not measured", x.band(5, 1, 0), 0);
        x.bands(3, 0, 0, 0, 7);
        x.measured(1);
        CHECK.same("band(5, 1, 15)", x.band(5, 1, 15), 7);
        CHECK.bits("band(5, 1, 0)", x.band(5, 1, 0), 0.5f);
        CHECK.same("the other isn't", x.band(5, 0, 0), 0);
        x.undo();
        CHECK.same("nor it, when that is taken back", x.band(5, 1, 15), 0);
    }

    static void promise08_noneSuch() {
        CHECK.says("0 where there is none such.");
        int[][] none = {{-1, 0, 0}, {6, 0, 0}, {LEAST, 0, 0}, {GREATEST, 0, 0}, {1, -1, 0}, {1, 4, 0}, {1, LEAST, 0},
            {1, GREATEST, 0}, {2, -1, 0}, {2, 2, 0}, {4, -1, 0}, {4, 4, 0}, {5, -1, 0}, {5, 1, 0}, {5, 2, 0},
            {0, 0, -1}, {0, 0, 16}, {1, 0, -1}, {1, 0, 16}, {2, 0, 16}, {3, 0, -1}, {3, 0, 16}, {4, 1, 16}, {5, 0, 16},
            {0, 0, LEAST}, {0, 0, GREATEST}};
        for (int[] n : none) {
            TWINS.refusedOnRich("band(" + n[0] + ", " + n[1] + ", " + n[2] + ")", x -> x.band(n[0], n[1], n[2]), 0,
                KEPT);
        }
    }

    static void promise09_rowBecomes() {
        CHECK.says("THE ROW becomes the one of a sort as there (1, 2, 3, 5): true");
        int[][] taken = {{1, 0}, {1, 3}, {2, 0}, {2, 1}, {3, 0}, {3, LEAST}, {3, GREATEST}, {5, 0}};
        ColourHouse x = new ColourHouse();
        Bench.rich(x);
        for (int[] t : taken) {
            x.bands(3, 0, 1, 2, 3);
            x.measure(0, 0, 0);
            CHECK.yes("pick(" + t[0] + ", " + t[1] + ")", x.pick(t[0], t[1]));
            CHECK.same("its trouble()", x.trouble(), 0);
            for (int k = 0; k < 16; k++) {
                CHECK.same("band " + k + " of " + t[0] + ", " + t[1], x.band(0, 0, k), x.band(t[0], t[1], k));
            }
        }
        CHECK.same("no act", x.count(7), 23);
    }

    static void promise09_noneSuch() {
        CHECK.says("false (2), and it stays, if there is none such.");
        int[][] none = {{0, 0}, {4, 1}, {-1, 0}, {6, 0}, {LEAST, 0}, {GREATEST, 0}, {1, -1}, {1, 4}, {2, -1}, {2, 2},
            {5, -1}, {5, 1}, {5, 2}, {1, LEAST}, {1, GREATEST}};
        for (int[] n : none) {
            TWINS.refusedOnRich("pick(" + n[0] + ", " + n[1] + ")", x -> x.pick(n[0], n[1]) ? 1 : 0, 0, 2);
        }
        ColourHouse x = new ColourHouse();
        x.bands(0, 1, 2, 3, 4);
        for (int sort = 0; sort <= 5; sort++) {
            CHECK.denied("pick(" + sort + ", 0) of nothing", x, x.pick(sort, 0), 2);
            CHECK.same("it stays", x.band(0, 0, 3), 4);
        }
    }

    static void promise10_eachBand() {
        CHECK.says("each band (a * up + b * (down - up)) / down, of doubles, made a float: its number");
        ColourHouse x = new ColourHouse();
        float[] a = {2, 1e-45f, 0, 0.1f};
        float[] b = {0, 0, 1e-45f, 0.7f};
        Bench.four(x, a[0], a[1], a[2], a[3]);
        x.chip();
        Bench.four(x, b[0], b[1], b[2], b[3]);
        x.chip();
        int[][] shares = {{0, 1}, {1, 1}, {0, 1000}, {1000, 1000}, {1, 1000}, {999, 1000}, {1, 2}, {1, 3}, {2, 3}};
        for (int n = 0; n < shares.length; n++) {
            int up = shares[n][0];
            int down = shares[n][1];
            CHECK.same("blend(0, 1, " + up + ", " + down + ")", x.blend(0, 1, up, down), n + 2);
            CHECK.same("trouble()", x.trouble(), 0);
            for (int k = 0; k < 4; k++) {
                double due = ((double) a[k] * up + (double) b[k] * (down - up)) / down;
                CHECK.bits("band " + k + " of " + up + " / " + down, x.band(1, n + 2, k), (float) due);
            }
        }
        CHECK.same("of one and the same", x.blend(0, 0, 1, 3), shares.length + 2);
        CHECK.bits("it is that", x.band(1, shares.length + 2, 0), 2f);
    }

    static void promise10_ofDoubles() {
        CHECK.says("of doubles, made a float");
        ColourHouse x = new ColourHouse();
        Bench.flatChip(x, 0.1f);
        Bench.flatChip(x, 0.7f);
        int told = 0;
        for (int down = 3; down < 1000 && told < 10; down += 2) {
            float due = (float) (((double) 0.1f * 2 + (double) 0.7f * (down - 2)) / down);
            float ofFloats = (float) (((double) 0.1f * 2 + 0.7f * (down - 2)) / down);
            if (ofFloats != due) {
                told++;
                CHECK.bits("a band of 2 / " + down, x.band(1, x.blend(0, 1, 2, down), 0), due);
                CHECK.bits("the other way round", x.band(1, x.blend(1, 0, down - 2, down), 0), due);
            }
        }
        CHECK.same("shares by which products of floats would tell", told, 10);
    }

    static void promise10_oneIsNotThere() {
        CHECK.says("NONE, trouble 2 if one isn't there");
        int[] none = {-1, 4, 40, LEAST, GREATEST};
        for (int c : none) {
            TWINS.refusedOnRich("blend(" + c + ", 0, 1, 2)", x -> x.blend(c, 0, 1, 2), NONE, 2);
            TWINS.refusedOnRich("blend(0, " + c + ", 1, 2)", x -> x.blend(0, c, 1, 2), NONE, 2);
        }
        TWINS.refusedOnRich("blend(4, 4, 3, 2)", x -> x.blend(4, 4, 3, 2), NONE, 2);
        ColourHouse empty = new ColourHouse();
        CHECK.refused("blend of nothing", empty, empty.blend(0, 0, 0, 1), 2);
    }

    static void promise10_otherShares() {
        CHECK.says("else 3 if up isn't 0 .. down or down isn't 1 .. 1,000");
        int[][] wrong = {{-1, 2}, {3, 2}, {2, 1}, {0, 0}, {0, -1}, {-1, -1}, {0, 1001}, {1001, 1001}, {LEAST, 1},
            {GREATEST, 1}, {0, LEAST}, {0, GREATEST}};
        for (int[] w : wrong) {
            TWINS.refusedOnRich("blend(0, 1, " + w[0] + ", " + w[1] + ")", x -> x.blend(0, 1, w[0], w[1]), NONE, 3);
        }
        TWINS.refusedOnRich(SpectraEdges::fillChips, "blend(0, 1, 3, 2) with forty", x -> x.blend(0, 1, 3, 2), NONE, 3);
    }

    static void promise10_elseNoRoom() {
        CHECK.says("else 1.");
        ColourHouse x = new ColourHouse();
        for (int i = 0; i < 39; i++) {
            x.chip();
        }
        CHECK.same("the fortieth", x.blend(38, 0, 1, 2), 39);
        CHECK.refused("the forty-first", x, x.blend(38, 0, 1, 2), 1);
        x.undo();
        CHECK.same("the fortieth again", x.blend(0, 38, 1, 2), 39);
        TWINS.refusedOnRich(SpectraEdges::fillChips, "blend(39, 0, 1, 2)", y -> y.blend(39, 0, 1, 2), NONE, 1);
        TWINS.refusedOnRich(SpectraEdges::fillChips, "blend(40, 0, 1, 2)", y -> y.blend(40, 0, 1, 2), NONE, 2);
    }
}
