/** Promises 25 to 27 and 30 to 33, and the LOTS and BATCHES of term V. */
final class BatchEdges {
    private static final Check CHECK = EdgeTests.check();
    private static final Twins TWINS = new Twins(CHECK);
    private static final int NONE = ColourHouse.NONE;
    private static final int KEPT = Twins.KEPT;
    private static final int LEAST = Integer.MIN_VALUE;
    private static final int GREATEST = Integer.MAX_VALUE;
    private static final int MOST_STOCK = 1000000000;

    private BatchEdges() {
    }

    /** Cloths 0 and 1, dyes 0 on cloth 0 and 1 on cloth 1. */
    private static ColourHouse bench() {
        ColourHouse x = new ColourHouse();
        Bench.plainSight(x);
        Bench.flatCloth(x, 1);
        Bench.flatCloth(x, 0.9f);
        x.dye(0);
        x.dye(1);
        return x;
    }

    private static ColourHouse withLots(int lots, int milligrams) {
        ColourHouse x = bench();
        for (int i = 0; i < lots; i++) {
            x.lot(0, 1, 1, milligrams);
        }
        x.batch(0, 10);
        x.batch(1, 10);
        return x;
    }

    static void term5_lots() {
        CHECK.says("LOTS of a DYE have a strength up / down (each 1 .. 1,000) "
            + "and milligrams in stock (1 .. 1,000,000,000).");
        ColourHouse x = bench();
        int[][] wrong = {{0, 1, 1}, {1001, 1, 1}, {1, 0, 1}, {1, 1001, 1}, {1, 1, 0}, {1, 1, MOST_STOCK + 1}};
        for (int[] w : wrong) {
            CHECK.refused("lot(0, " + w[0] + ", " + w[1] + ", " + w[2] + ")", x, x.lot(0, w[0], w[1], w[2]), 3);
        }
        int[][] taken = {{1, 1, 1}, {1000, 1, 1}, {1, 1000, 1}, {1000, 1000, MOST_STOCK}};
        for (int n = 0; n < taken.length; n++) {
            int[] t = taken[n];
            CHECK.same("lot(0, " + t[0] + ", " + t[1] + ", " + t[2] + ")", x.lot(0, t[0], t[1], t[2]), n);
        }
    }

    static void term5_kilos() {
        CHECK.says("A BATCH on a cloth, of KILOS 1 .. 1,000");
        ColourHouse x = bench();
        CHECK.refused("batch(0, 0)", x, x.batch(0, 0), 3);
        CHECK.refused("batch(0, 1001)", x, x.batch(0, 1001), 3);
        CHECK.same("batch(1, 1)", x.batch(1, 1), 0);
        CHECK.same("batch(0, 1000)", x.batch(0, 1000), 1);
        CHECK.same("told(0, 4)", x.told(0, 4), 1);
        CHECK.same("told(0, 5)", x.told(0, 5), 1);
        CHECK.same("told(1, 4)", x.told(1, 4), 0);
        CHECK.same("told(1, 5)", x.told(1, 5), 1000);
    }

    static void term5_weighing() {
        CHECK.says("a WEIGHING of a lot takes whole grams 1 .. 100,000 (times 1,000 milligrams) out of its stock");
        ColourHouse x = withLots(1, MOST_STOCK);
        CHECK.refused("weigh(0, 0, 0)", x, x.weigh(0, 0, 0), 3);
        CHECK.refused("weigh(0, 0, 100001)", x, x.weigh(0, 0, 100001), 3);
        CHECK.same("weigh(0, 0, 1)", x.weigh(0, 0, 1), 1);
        CHECK.same("milligrams left", x.told(0, 1), 999999000);
        CHECK.same("milligrams weighed", x.told(0, 2), 1000);
        CHECK.same("weigh(0, 0, 100000)", x.weigh(0, 0, 100000), 100001);
        CHECK.same("milligrams left", x.told(0, 1), 899999000);
        CHECK.same("milligrams weighed", x.told(0, 2), 100001000);
        CHECK.same("milligrams that came in", x.told(0, 3), MOST_STOCK);
    }

    static void term5_addedToThat() {
        CHECK.says("one of a lot that the BATCH has already is added to that.");
        ColourHouse x = withLots(2, MOST_STOCK);
        x.weigh(0, 1, 7);
        x.weigh(0, 0, 5);
        CHECK.same("more of the first", x.weigh(0, 1, 9), 16);
        CHECK.same("its LOTS", x.told(0, 6), 2);
        CHECK.same("its order", x.weighed(0, 0, false), 1);
        CHECK.same("its grams", x.weighed(0, 0, true), 16);
        CHECK.same("the other's", x.weighed(0, 1, true), 5);
        CHECK.same("another batch has its own", x.weigh(1, 1, 2), 2);
        CHECK.same("this one's stay", x.weighed(0, 0, true), 16);
        CHECK.same("the stock of both", x.told(1, 1), MOST_STOCK - 18000);
    }

    static void term5_measured() {
        CHECK.says("MEASURED: THE ROW is what the BATCH has come to; it PASSES a SOLID if its COLOUR isn't outside.");
        ColourHouse x = withLots(1, 1);
        Bench.flatChip(x, 0.25f);
        x.solid(0, 0, 0, 0, 250, 10, 10);
        x.solid(1, 0, 0, 0, 250, 10, 10);
        float[] rows = {0.25f, 0.5625f, Math.nextUp(0.5625f), Math.nextDown(0.5625f), 0.0625f, Math.nextDown(0.0625f)};
        int[] due = {1, 1, 0, 1, 1, 0};
        for (int n = 0; n < rows.length; n++) {
            Bench.flat(x, rows[n]);
            x.measured(0);
            Bench.flat(x, 1);
            CHECK.same("a BOX and " + rows[n], x.passes(0, 0), due[n]);
            CHECK.same("an ELLIPSOID and " + rows[n], x.passes(0, 1), due[n]);
        }
    }

    static void promise25_itsNumber() {
        CHECK.says("A new LOT of a DYE: its number");
        ColourHouse x = bench();
        for (int i = 0; i < 20; i++) {
            x.measure(0, 0, 0);
            CHECK.same("lot", x.lot(i % 2, 1 + i * 50, 1000 - i * 50, i + 1), i);
            CHECK.same("trouble()", x.trouble(), 0);
            CHECK.same("its DYE", x.told(i, 0), i % 2);
            CHECK.same("its stock", x.told(i, 1), i + 1);
        }
        CHECK.same("the first stays", x.told(0, 3), 1);
    }

    static void promise25_noSuchDye() {
        CHECK.says("NONE, trouble 2 if there is no such DYE");
        int[] none = {-1, 2, 12, LEAST, GREATEST};
        for (int d : none) {
            TWINS.refusedOnRich("lot(" + d + ", 1, 1, 1)", x -> x.lot(d, 1, 1, 1), NONE, 2);
            TWINS.refusedOnRich("lot(" + d + ", 0, 0, 0)", x -> x.lot(d, 0, 0, 0), NONE, 2);
        }
        ColourHouse empty = new ColourHouse();
        CHECK.refused("lot without dyes", empty, empty.lot(0, 1, 1, 1), 2);
    }

    /** Lots on to this many. */
    private static void fillLots(ColourHouse x, int to) {
        for (int i = x.count(4); i < to; i++) {
            x.lot(0, 1, 1, 9000);
        }
    }

    static void promise25_otherNumbers() {
        CHECK.says("else 3 for other numbers");
        int[][] wrong = {{0, 1, 1}, {1001, 1, 1}, {-1, 1, 1}, {LEAST, 1, 1}, {GREATEST, 1, 1}, {1, 0, 1}, {1, 1001, 1},
            {1, -1, 1}, {1, LEAST, 1}, {1, GREATEST, 1}, {1, 1, 0}, {1, 1, MOST_STOCK + 1}, {1, 1, -1}, {1, 1, LEAST},
            {1, 1, GREATEST}};
        for (int[] w : wrong) {
            TWINS.refusedOnRich("lot(1, " + w[0] + ", " + w[1] + ", " + w[2] + ")", x -> x.lot(1, w[0], w[1], w[2]),
                NONE, 3);
        }
        TWINS.refusedOnRich(x -> fillLots(x, 20), "lot(1, 1, 1, 0) with twenty", x -> x.lot(1, 1, 1, 0), NONE, 3);
    }

    static void promise25_ifThereAreTwenty() {
        CHECK.says("else 1 if there are 20.");
        ColourHouse x = bench();
        fillLots(x, 19);
        CHECK.same("the twentieth", x.lot(0, 1, 1, 1), 19);
        CHECK.same("its trouble()", x.trouble(), 0);
        CHECK.refused("the twenty-first", x, x.lot(0, 1, 1, 1), 1);
        x.undo();
        CHECK.same("the twentieth again", x.lot(1, 1, 1, 1), 19);
        TWINS.refusedOnRich(y -> fillLots(y, 20), "lot(1, 1, 1, 1)", y -> y.lot(1, 1, 1, 1), NONE, 1);
        TWINS.refusedOnRich(y -> fillLots(y, 20), "lot(2, 1, 1, 1)", y -> y.lot(2, 1, 1, 1), NONE, 2);
    }

    static void promise26_itsNumber() {
        CHECK.says("A new BATCH: its number");
        ColourHouse x = withLots(1, 9000);
        x.weigh(1, 0, 3);
        x.measured(1);
        for (int n = 0; n < 4; n++) {
            x.undo();
        }
        for (int i = 0; i < 12; i++) {
            x.measure(0, 0, 0);
            CHECK.same("batch", x.batch(i % 2, i + 1), i);
            CHECK.same("trouble()", x.trouble(), 0);
            int[] due = {i % 2, i + 1, 0, 0, 0};
            for (int what = 4; what <= 8; what++) {
                CHECK.same("told(" + i + ", " + what + ")", x.told(i, what), due[what - 4]);
            }
        }
    }

    static void promise26_noSuchCloth() {
        CHECK.says("NONE, trouble 2 if there is no such CLOTH");
        int[] none = {-1, 2, 8, LEAST, GREATEST};
        for (int c : none) {
            TWINS.refusedOnRich("batch(" + c + ", 1)", x -> x.batch(c, 1), NONE, 2);
            TWINS.refusedOnRich("batch(" + c + ", 0)", x -> x.batch(c, 0), NONE, 2);
        }
        ColourHouse empty = new ColourHouse();
        CHECK.refused("batch without cloths", empty, empty.batch(0, 1), 2);
    }

    private static void fillBatches(ColourHouse x) {
        for (int i = x.count(5); i < 12; i++) {
            x.batch(0, 10);
        }
    }

    static void promise26_otherKilos() {
        CHECK.says("else 3 for other KILOS");
        int[] wrong = {0, -1, 1001, LEAST, GREATEST};
        for (int k : wrong) {
            TWINS.refusedOnRich("batch(1, " + k + ")", x -> x.batch(1, k), NONE, 3);
        }
        TWINS.refusedOnRich(BatchEdges::fillBatches, "batch(1, 1001) with twelve", x -> x.batch(1, 1001), NONE, 3);
    }

    static void promise26_ifThereAreTwelve() {
        CHECK.says("else 1 if there are 12.");
        ColourHouse x = bench();
        for (int i = 0; i < 11; i++) {
            x.batch(0, 1);
        }
        CHECK.same("the twelfth", x.batch(0, 1000), 11);
        CHECK.same("its trouble()", x.trouble(), 0);
        CHECK.refused("the thirteenth", x, x.batch(0, 1), 1);
        x.undo();
        CHECK.same("the twelfth again", x.batch(1, 1), 11);
        TWINS.refusedOnRich(BatchEdges::fillBatches, "batch(1, 1)", y -> y.batch(1, 1), NONE, 1);
        TWINS.refusedOnRich(BatchEdges::fillBatches, "batch(2, 1)", y -> y.batch(2, 1), NONE, 2);
    }

    static void promise27_howManyGrams() {
        CHECK.says("A WEIGHING: how many grams of this LOT the BATCH has");
        ColourHouse x = withLots(2, MOST_STOCK);
        for (int n = 1; n <= 10; n++) {
            x.measure(0, 0, 0);
            CHECK.same("weigh(0, 0, 100000)", x.weigh(0, 0, 100000), 100000 * n);
            CHECK.same("trouble()", x.trouble(), 0);
        }
        CHECK.same("of another lot", x.weigh(0, 1, 3), 3);
        CHECK.same("of another batch", x.weigh(1, 1, 4), 4);
    }

    static void promise27_noSuchBatchOrLot() {
        CHECK.says("NONE, trouble 2 if there is no such BATCH or LOT");
        int[] none = {-1, 2, 12, 20, LEAST, GREATEST};
        for (int i : none) {
            TWINS.refusedOnRich("weigh(" + i + ", 0, 1)", x -> x.weigh(i, 0, 1), NONE, 2);
            TWINS.refusedOnRich("weigh(0, " + i + ", 1)", x -> x.weigh(0, i, 1), NONE, 2);
            TWINS.refusedOnRich("weigh(0, " + i + ", 0)", x -> x.weigh(0, i, 0), NONE, 2);
        }
        ColourHouse x = bench();
        x.batch(0, 1);
        CHECK.refused("a batch without lots", x, x.weigh(0, 0, 1), 2);
        x.undo();
        x.lot(0, 1, 1, 1000);
        CHECK.refused("a lot without batches", x, x.weigh(0, 0, 1), 2);
    }

    static void promise27_otherGrams() {
        CHECK.says("else 3 for other grams");
        // 4294968 times 1000 wraps to 704
        int[] wrong = {0, -1, 100001, 4294968, LEAST, GREATEST};
        for (int g : wrong) {
            TWINS.refusedOnRich("weigh(0, 0, " + g + ")", x -> x.weigh(0, 0, g), NONE, 3);
            TWINS.refusedOnRich(x -> fillLotsOfBatch(x, 0), "weigh(0, 8, " + g + ")", x -> x.weigh(0, 8, g), NONE, 3);
        }
    }

    /** Lots of 9 grams on to nine, eight of them in a batch of the rich bench. */
    private static void fillLotsOfBatch(ColourHouse x, int batch) {
        fillLots(x, 9);
        for (int lot = 0; lot < 8; lot++) {
            x.weigh(batch, lot, 1);
        }
    }

    static void promise27_theStock() {
        CHECK.says("else 4 if the stock isn't enough");
        int[][] edges = {{1, 0}, {999, 0}, {1000, 1}, {1999, 1}, {2000, 2}, {100000000, 100000}};
        for (int[] e : edges) {
            ColourHouse x = withLots(1, e[0]);
            if (e[1] < 100000) {
                CHECK.refused((e[1] + 1) + " grams of " + e[0], x, x.weigh(0, 0, e[1] + 1), 4);
            }
            CHECK.refused("none other", x, x.weigh(0, 1, 1), 2);
            if (e[1] > 0) {
                CHECK.same(e[1] + " grams of " + e[0], x.weigh(0, 0, e[1]), e[1]);
                CHECK.same("trouble()", x.trouble(), 0);
            }
            CHECK.refused("a gram more", x, x.weigh(0, 0, 1), 4);
            CHECK.refused("a gram more for the other batch", x, x.weigh(1, 0, 1), 4);
            CHECK.same("what is left", x.told(0, 1), e[0] - 1000 * e[1]);
        }
        TWINS.refusedOnRich(x -> x.measure(0, 0, 0), "weigh(0, 0, 31)", x -> x.weigh(0, 0, 31), NONE, 4);
        TWINS.refusedOnRich(x -> x.measure(0, 0, 0), "weigh(1, 0, 100000)", x -> x.weigh(1, 0, 100000), NONE, 4);
        TWINS.refusedOnRich(x -> {
            fillLotsOfBatch(x, 0);
            x.measure(0, 0, 0);
        }, "weigh(0, 8, 10) for a full batch", x -> x.weigh(0, 8, 10), NONE, 4);
    }

    static void promise27_theNinthLot() {
        CHECK.says("else 1 if it would be the ninth LOT.");
        ColourHouse x = withLots(10, 9000);
        for (int lot = 0; lot < 7; lot++) {
            x.weigh(0, lot, 1);
        }
        CHECK.same("the eighth", x.weigh(0, 9, 1), 1);
        CHECK.same("its trouble()", x.trouble(), 0);
        CHECK.refused("the ninth", x, x.weigh(0, 7, 1), 1);
        CHECK.refused("the ninth", x, x.weigh(0, 8, 9), 1);
        CHECK.same("more of the first", x.weigh(0, 0, 8), 9);
        CHECK.same("more of the eighth", x.weigh(0, 9, 8), 9);
        CHECK.same("of another batch", x.weigh(1, 8, 1), 1);
        x.undo();
        x.undo();
        x.undo();
        x.undo();
        CHECK.same("the eighth was taken back", x.weigh(0, 8, 1), 1);
        CHECK.refused("the ninth then", x, x.weigh(0, 9, 1), 1);
        TWINS.refusedOnRich(y -> fillLotsOfBatch(y, 0), "weigh(0, 8, 9)", y -> y.weigh(0, 8, 9), NONE, 1);
        TWINS.refusedOnRich(y -> fillLotsOfBatch(y, 1), "weigh(1, 8, 1)", y -> y.weigh(1, 8, 1), NONE, 1);
    }

    static void promise30_rowIsWhatItHasComeTo() {
        CHECK.says("THE ROW is what a BATCH has come to: true");
        ColourHouse x = withLots(1, 1);
        x.bands(3, 1, 2, 3, 4);
        x.measure(0, 0, 0);
        CHECK.yes("measured(1)", x.measured(1));
        CHECK.same("trouble()", x.trouble(), 0);
        x.bands(3, 5, 6, 7, 8);
        CHECK.same("band(5, 1, 15)", x.band(5, 1, 15), 4);
        CHECK.yes("measured(1) again", x.measured(1));
        CHECK.same("band(5, 1, 15)", x.band(5, 1, 15), 8);
        CHECK.same("told(1, 8)", x.told(1, 8), 1);
        CHECK.same("told(0, 8)", x.told(0, 8), 0);
        x.undo();
        CHECK.same("taken back", x.band(5, 1, 15), 4);
        x.undo();
        CHECK.same("taken back", x.told(1, 8), 0);
        CHECK.same("there is none such", x.band(5, 1, 15), 0);
    }

    static void promise30_noneSuch() {
        CHECK.says("false, trouble 2 if there is none such.");
        int[] none = {-1, 2, 12, LEAST, GREATEST};
        for (int b : none) {
            TWINS.refusedOnRich("measured(" + b + ")", x -> x.measured(b) ? 1 : 0, 0, 2);
        }
        ColourHouse empty = new ColourHouse();
        CHECK.denied("measured(0) without batches", empty, empty.measured(0), 2);
    }

    static void promise31_oneIsNotThere() {
        CHECK.says("NONE if one isn't there, or it wasn't measured.");
        int[][] none = {{-1, 0}, {1, 0}, {2, 0}, {12, 0}, {LEAST, 0}, {GREATEST, 0}, {0, -1}, {0, 2}, {0, 12},
            {0, LEAST}, {0, GREATEST}, {1, 2}};
        for (int[] n : none) {
            TWINS.refusedOnRich("passes(" + n[0] + ", " + n[1] + ")", x -> x.passes(n[0], n[1]), NONE, KEPT);
        }
        ColourHouse x = new ColourHouse();
        Bench.rich(x);
        x.measured(1);
        CHECK.yes("when it was", x.passes(1, 0) != NONE);
        x.undo();
        CHECK.same("when that was taken back", x.passes(1, 0), NONE);
    }

    static void promise31_passes() {
        CHECK.says("Whether a BATCH that was measured PASSES a SOLID: 1, 0");
        ColourHouse x = withLots(1, 1);
        Bench.flatChip(x, 0.25f);
        x.solid(0, 0, 0, 0, 250, 1, 1);
        x.measured(1);
        CHECK.same("inside", x.passes(1, 0), 1);
        Bench.flat(x, 0.5625f);
        x.measured(1);
        CHECK.same("on the border", x.passes(1, 0), 1);
        Bench.flat(x, 0.57f);
        x.measured(1);
        CHECK.same("outside", x.passes(1, 0), 0);
    }

    static void promise32_ofLots() {
        CHECK.says("Of LOT i, what 0: its DYE, 1: milligrams left, 2: milligrams weighed, 3: milligrams that came in");
        ColourHouse x = bench();
        x.lot(1, 1, 1, MOST_STOCK);
        x.lot(0, 1, 1, 1);
        x.batch(0, 1);
        for (int n = 0; n < 10; n++) {
            x.weigh(0, 0, 100000);
        }
        int[][] due = {{1, 0, MOST_STOCK, MOST_STOCK}, {0, 1, 0, 1}};
        for (int i = 0; i < 2; i++) {
            for (int what = 0; what <= 3; what++) {
                CHECK.same("told(" + i + ", " + what + ")", x.told(i, what), due[i][what]);
            }
        }
        x.undo();
        CHECK.same("left", x.told(0, 1), 100000000);
        CHECK.same("weighed", x.told(0, 2), 900000000);
    }

    static void promise32_ofBatches() {
        CHECK.says("of BATCH i, 4: its CLOTH, 5: KILOS, 6: how many LOTS, 7: grams in all, 8: whether it was measured");
        ColourHouse x = withLots(8, MOST_STOCK);
        int[] empty = {1, 10, 0, 0, 0};
        for (int what = 4; what <= 8; what++) {
            CHECK.same("told(1, " + what + ") at first", x.told(1, what), empty[what - 4]);
        }
        for (int lot = 0; lot < 8; lot++) {
            for (int n = 0; n < 10; n++) {
                x.weigh(0, lot, 100000);
            }
        }
        x.measured(0);
        int[] full = {0, 10, 8, 8000000, 1};
        for (int what = 4; what <= 8; what++) {
            CHECK.same("told(0, " + what + ") of a full one", x.told(0, what), full[what - 4]);
            CHECK.same("told(1, " + what + ") then", x.told(1, what), empty[what - 4]);
        }
    }

    static void promise32_ofDyes() {
        CHECK.says("of DYE i, 9: its CLOTH, 10: STRENGTHS, 11: cents.");
        ColourHouse x = bench();
        x.strength(1, 1);
        x.strength(1, 2);
        x.cents(1, 100000);
        int[][] due = {{0, 0, 0}, {1, 2, 100000}};
        for (int i = 0; i < 2; i++) {
            for (int what = 9; what <= 11; what++) {
                CHECK.same("told(" + i + ", " + what + ")", x.told(i, what), due[i][what - 9]);
            }
        }
    }

    static void promise32_noneSuch() {
        CHECK.says("NONE where there is none such.");
        int[] whats = {-1, 12, LEAST, GREATEST};
        for (int what : whats) {
            TWINS.refusedOnRich("told(0, " + what + ")", x -> x.told(0, what), NONE, KEPT);
        }
        int[] none = {-1, 2, 12, 20, LEAST, GREATEST};
        ColourHouse x = new ColourHouse();
        Bench.rich(x);
        for (int i : none) {
            for (int what = 0; what <= 11; what++) {
                CHECK.same("told(" + i + ", " + what + ")", x.told(i, what), NONE);
            }
            TWINS.refusedOnRich("told(" + i + ", 3)", y -> y.told(i, 3), NONE, KEPT);
        }
        CHECK.same("tells no trouble", x.trouble(), KEPT);
        ColourHouse one = bench();
        one.lot(0, 1, 1, 1);
        one.lot(0, 1, 1, 1);
        one.lot(0, 1, 1, 1);
        one.batch(0, 1);
        CHECK.same("there is a lot 2", one.told(2, 0), 0);
        CHECK.same("but no batch 1", one.told(1, 4), NONE);
        CHECK.same("nor a dye 2", one.told(2, 9), NONE);
    }

    static void promise33_kth() {
        CHECK.says("Of a BATCH the k-th of its LOTS (in the order in which they came), or its grams");
        ColourHouse x = withLots(9, MOST_STOCK);
        for (int n = 0; n < 8; n++) {
            x.weigh(0, 8 - n, n + 1);
        }
        x.weigh(0, 1, 100);
        for (int k = 0; k < 8; k++) {
            CHECK.same("weighed(0, " + k + ", false)", x.weighed(0, k, false), 8 - k);
            CHECK.same("weighed(0, " + k + ", true)", x.weighed(0, k, true), k + 1 + (k == 7 ? 100 : 0));
        }
        CHECK.same("weighed(0, 8, false)", x.weighed(0, 8, false), NONE);
        CHECK.same("weighed(0, 8, true)", x.weighed(0, 8, true), NONE);
    }

    static void promise33_none() {
        CHECK.says("NONE.");
        int[][] none = {{-1, 0}, {2, 0}, {12, 0}, {LEAST, 0}, {GREATEST, 0}, {0, -1}, {0, 1}, {0, 8}, {0, LEAST},
            {0, GREATEST}};
        for (int[] n : none) {
            for (int grams = 0; grams < 2; grams++) {
                boolean ofGrams = grams == 1;
                TWINS.refusedOnRich("weighed(" + n[0] + ", " + n[1] + ", " + ofGrams + ")",
                    x -> x.weighed(n[0], n[1], ofGrams), NONE, KEPT);
            }
        }
        ColourHouse x = withLots(2, 9000);
        CHECK.same("of an empty batch", x.weighed(0, 0, true), NONE);
        x.weigh(0, 1, 1);
        CHECK.same("behind a WEIGHING", x.weighed(0, 0, false), 1);
        x.undo();
        CHECK.same("when it was taken back", x.weighed(0, 0, false), NONE);
    }
}
