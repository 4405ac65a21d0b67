/** Promises 25 to 33. */
final class BatchTests {
    private static final Check CHECK = new Check();

    public static void main(String[] args) {
        lot();
        batch();
        weigh();
        weighNine();
        correctRefusals();
        correctOne();
        correctTwo();
        correctNothingBetter();
        correctStock();
        correctRoom();
        correctMostGrams();
        correctThousand();
        bathIsDownwards();
        measured();
        passes();
        told();
        weighed();
        CHECK.end("BatchTests");
    }

    /** Sight on the first bands, cloth 0, and three dyes on it, each seen in a band of its own. */
    private static ColourHouse bench() {
        ColourHouse x = new ColourHouse();
        Bench.plainSight(x);
        Bench.flatCloth(x, 0.9f);
        for (int d = 0; d < 3; d++) {
            x.dye(0);
            float[] bands = {0.9f, 0.9f, 0.9f, 0.9f};
            bands[d] = 0.2f;
            Bench.four(x, bands[0], bands[1], bands[2], bands[3]);
            x.strength(d, 1000);
        }
        return x;
    }

    private static int goalOf(ColourHouse x, int... lotsAndGrams) {
        for (int p = 0; p < lotsAndGrams.length; p += 2) {
            x.part(true, lotsAndGrams[p], lotsAndGrams[p + 1]);
        }
        x.predict(0);
        x.pick(3, 0);
        return x.chip();
    }

    private static void added(ColourHouse x, int tries, int all, int... lotsAndGrams) {
        CHECK.same("addition(0)", x.addition(0), tries);
        CHECK.same("addition(1)", x.addition(1), all);
        for (int p = 0; p < 6; p++) {
            CHECK.same("addition(" + (p + 2) + ")", x.addition(p + 2), p < lotsAndGrams.length ? lotsAndGrams[p] : -1);
        }
        CHECK.same("addition(-1)", x.addition(-1), -1);
    }

    private static void lot() {
        CHECK.promise("25 lot");
        ColourHouse x = bench();
        CHECK.refused("no such dye", x, x.lot(3, 0, 0, 0), 2);
        CHECK.refused("no such dye", x, x.lot(-1, 1, 1, 1), 2);
        int[][] wrong = {{0, 1, 1}, {1001, 1, 1}, {1, 0, 1}, {1, 1001, 1}, {1, 1, 0}, {1, 1, 1000000001}, {-1, 1, 1},
            {1, -1, 1}, {1, 1, -1}};
        for (int[] w : wrong) {
            CHECK.refused("lot", x, x.lot(0, w[0], w[1], w[2]), 3);
        }
        for (int i = 0; i < 20; i++) {
            CHECK.same("lot", x.lot(i % 3, 1000, 1, 1000000000), i);
            CHECK.same("trouble()", x.trouble(), 0);
        }
        CHECK.refused("no room", x, x.lot(0, 1, 1000, 1), 1);
        CHECK.refused("no room, a number", x, x.lot(0, 1, 1000, 0), 3);
        CHECK.same("count(4)", x.count(4), 20);
    }

    private static void batch() {
        CHECK.promise("26 batch");
        ColourHouse x = bench();
        CHECK.refused("no such cloth", x, x.batch(1, 0), 2);
        CHECK.refused("no such cloth", x, x.batch(-1, 1), 2);
        CHECK.refused("kilos", x, x.batch(0, 0), 3);
        CHECK.refused("kilos", x, x.batch(0, 1001), 3);
        for (int i = 0; i < 12; i++) {
            CHECK.same("batch", x.batch(0, i == 0 ? 1000 : i), i);
            CHECK.same("trouble()", x.trouble(), 0);
        }
        CHECK.refused("no room", x, x.batch(0, 1), 1);
        CHECK.refused("no room, kilos", x, x.batch(0, 1001), 3);
        CHECK.same("count(5)", x.count(5), 12);
    }

    private static void weigh() {
        CHECK.promise("27 weigh");
        ColourHouse x = bench();
        x.batch(0, 10);
        CHECK.refused("no such lot", x, x.weigh(0, 0, 0), 2);
        x.lot(0, 1, 1, 5999);
        CHECK.refused("no such batch", x, x.weigh(1, 0, 1), 2);
        CHECK.refused("no such batch", x, x.weigh(-1, 0, 1), 2);
        CHECK.refused("no such lot", x, x.weigh(0, 1, 1), 2);
        CHECK.refused("no such lot", x, x.weigh(0, -1, 1), 2);
        CHECK.refused("grams", x, x.weigh(0, 0, 0), 3);
        CHECK.refused("grams", x, x.weigh(0, 0, 100001), 3);
        CHECK.refused("grams", x, x.weigh(0, 0, Integer.MAX_VALUE), 3);
        CHECK.refused("the stock", x, x.weigh(0, 0, 6), 4);
        CHECK.refused("the stock", x, x.weigh(0, 0, 100000), 4);
        CHECK.same("weigh", x.weigh(0, 0, 3), 3);
        CHECK.same("trouble()", x.trouble(), 0);
        CHECK.same("weigh more", x.weigh(0, 0, 2), 5);
        CHECK.refused("the stock", x, x.weigh(0, 0, 1), 4);
        CHECK.same("what is left", x.told(0, 1), 999);
        x.lot(0, 1, 1, 1000000000);
        for (int n = 1; n <= 10; n++) {
            CHECK.same("to the last gram", x.weigh(0, 1, 100000), 100000 * n);
        }
        CHECK.refused("the stock", x, x.weigh(0, 1, 1), 4);
    }

    private static void weighNine() {
        ColourHouse x = bench();
        x.batch(0, 10);
        x.batch(0, 10);
        for (int i = 0; i < 9; i++) {
            x.lot(0, 1, 1, 2000);
        }
        for (int i = 0; i < 8; i++) {
            CHECK.same("weigh", x.weigh(0, i, 1), 1);
        }
        CHECK.refused("the ninth lot", x, x.weigh(0, 8, 1), 1);
        CHECK.refused("the ninth lot, the stock", x, x.weigh(0, 8, 3), 4);
        CHECK.same("more of one it has", x.weigh(0, 7, 1), 2);
        CHECK.same("another batch", x.weigh(1, 8, 1), 1);
    }

    private static void correctRefusals() {
        CHECK.promise("28 correct");
        ColourHouse x = bench();
        for (int what = -1; what <= 6; what++) {
            CHECK.same("addition ahead of any", x.addition(what), -1);
        }
        x.batch(0, 10);
        CHECK.refused("no such chip", x, x.correct(0, 0, 9, 9, 0, 0), 2);
        goalOf(x);
        CHECK.refused("no such batch", x, x.correct(1, 0, 0, 0, 1, 1), 2);
        CHECK.refused("no such batch", x, x.correct(-1, 0, 0, 0, 1, 1), 2);
        CHECK.refused("no such chip", x, x.correct(0, 1, 0, 0, 1, 1), 2);
        CHECK.refused("no such chip", x, x.correct(0, -1, 0, 0, 1, 1), 2);
        int[][] wrong = {{-1, 0, 1, 1}, {6, 0, 1, 1}, {0, -1, 1, 1}, {0, 2, 1, 1}, {0, 0, 0, 1}, {0, 0, 10001, 1},
            {0, 0, 1, 0}, {0, 0, 1, 13}};
        for (int[] w : wrong) {
            CHECK.refused("correct", x, x.correct(0, 0, w[0], w[1], w[2], w[3]), 3);
        }
        CHECK.same("addition(0)", x.addition(0), -1);
        CHECK.same("without lots", x.correct(0, 0, 5, 1, 10000, 12), 0);
        CHECK.same("trouble()", x.trouble(), 0);
        added(x, 0, 1);
    }

    private static void correctOne() {
        CHECK.promise("28 and 29, one lot");
        ColourHouse x = bench();
        x.lot(0, 1, 1, 1000000);
        x.lot(1, 1, 1, 1000000);
        x.batch(0, 10);
        x.weigh(0, 0, 100);
        int goal = goalOf(x, 0, 300);
        int acts = x.count(7);
        CHECK.same("more of what it has", x.correct(0, goal, 0, 0, 50, 6), 1);
        added(x, 12 + 36, 1, 0, 200);
        CHECK.same("nothing is weighed", x.told(0, 1), 900000);
        CHECK.same("nothing is weighed", x.weighed(0, 0, true), 100);
        CHECK.same("no act", x.count(7), acts);
        int other = goalOf(x, 0, 100, 1, 150);
        CHECK.same("one it hasn't", x.correct(0, other, 0, 0, 50, 6), 1);
        added(x, 48, 1, 1, 150);
        CHECK.refused("refused", x, x.correct(0, other, 0, 0, 50, 13), 3);
        added(x, 48, 1, 1, 150);
    }

    private static void correctTwo() {
        CHECK.promise("28 and 29, two lots");
        ColourHouse x = bench();
        for (int d = 0; d < 3; d++) {
            x.lot(d, 1, 1, 1000000);
        }
        x.batch(0, 10);
        x.weigh(0, 2, 100);
        int goal = goalOf(x, 1, 40, 2, 160);
        CHECK.same("two", x.correct(0, goal, 0, 0, 20, 4), 2);
        added(x, 3 * 4 + 3 * 16, 1, 1, 40, 2, 60);
        x.lot(1, 1, 1, 1000000);
        CHECK.same("the first of those alike", x.correct(0, goal, 0, 0, 20, 4), 2);
        added(x, 4 * 4 + 6 * 16, 1, 1, 40, 2, 60);
    }

    private static void correctNothingBetter() {
        CHECK.promise("28 and 29, nothing better");
        ColourHouse x = bench();
        x.lot(0, 1, 1, 1000000);
        x.batch(0, 10);
        x.weigh(0, 0, 200);
        int goal = goalOf(x, 0, 100);
        CHECK.same("it has too much", x.correct(0, goal, 0, 0, 10, 12), 0);
        added(x, 12, 1);
        CHECK.same("in the dark all are alike", x.correct(0, goal, 1, 0, 10, 12), 0);
        added(x, 12, 1);
    }

    private static void correctStock() {
        CHECK.promise("28 and 29, the stock");
        ColourHouse x = bench();
        x.lot(0, 1, 1, 39999);
        x.lot(1, 1, 1, 9999);
        x.lot(1, 1, 1, 10000);
        x.batch(0, 10);
        int goal = goalOf(x, 0, 1000, 1, 1000);
        CHECK.same("what there is", x.correct(0, goal, 0, 0, 10, 12), 2);
        added(x, 3 + 1 + 3, 1, 0, 30, 2, 10);
        x.weigh(0, 0, 10);
        CHECK.same("what is left", x.correct(0, goal, 0, 0, 10, 12), 2);
        added(x, 2 + 1 + 2, 1, 0, 20, 2, 10);
        CHECK.same("too little for any step", x.correct(0, goal, 0, 0, 30, 12), 0);
        added(x, 0, 1);
    }

    private static void correctRoom() {
        CHECK.promise("28 and 29, the room");
        ColourHouse x = bench();
        for (int i = 0; i < 10; i++) {
            x.lot(i % 3, 1, 1, 3000);
        }
        x.batch(0, 10);
        for (int i = 0; i < 7; i++) {
            x.weigh(0, 9 - i, 1);
        }
        int goal = goalOf(x, 0, 1000, 1, 1000, 2, 1000);
        x.correct(0, goal, 0, 0, 1, 1);
        CHECK.same("10 alone; of 45 pairs all but the 3 of 0 1 2", x.addition(0), 10 + 42);
        x.weigh(0, 1, 1);
        x.correct(0, goal, 0, 0, 1, 1);
        CHECK.same("8 alone, and their pairs", x.addition(0), 8 + 28);
        CHECK.same("all", x.addition(1), 1);
        CHECK.yes("it has the first", x.addition(2) != 0 && x.addition(2) != 2);
    }

    private static void correctMostGrams() {
        CHECK.promise("28 and 29, a hundred thousand grams");
        ColourHouse x = bench();
        x.lot(0, 1, 1000, 1000000000);
        x.batch(0, 10);
        int goal = goalOf(x, 0, 1000000);
        CHECK.same("correct", x.correct(0, goal, 0, 0, 10000, 12), 1);
        added(x, 10, 1, 0, 100000);
        x.weigh(0, 0, 100000);
        CHECK.same("it may have more in all", x.correct(0, goal, 0, 0, 10000, 12), 1);
        added(x, 10, 1, 0, 100000);
    }

    private static void correctThousand() {
        CHECK.promise("28 and 29, a thousand tries");
        ColourHouse x = bench();
        for (int i = 0; i < 11; i++) {
            x.lot(i == 7 ? 1 : i == 0 ? 0 : 2, 1, 1, 1000000000);
        }
        x.batch(0, 10);
        // 11 * 12 = 132, then six pairs of 144 up to 0 6 are 996; four more of 0 7 up to 10 and 40 grams
        int goal = goalOf(x, 0, 10, 7, 40);
        CHECK.same("the last one", x.correct(0, goal, 0, 0, 10, 12), 2);
        added(x, 1000, 0, 0, 10, 7, 40);
        int beyond = goalOf(x, 0, 10, 7, 50);
        x.correct(0, beyond, 0, 0, 10, 12);
        added(x, 1000, 0, 0, 10, 7, 40);

        ColourHouse y = bench();
        for (int i = 0; i < 4; i++) {
            y.lot(i % 3, 1, 1, i < 2 ? 12000 : i == 2 ? 9000 : 11000);
        }
        y.batch(0, 10);
        int whole = goalOf(y, 0, 1000, 1, 1000, 2, 1000);
        y.correct(0, whole, 0, 0, 1, 12);
        int pairs = 12 * 12 + 12 * 9 + 12 * 11 + 12 * 9 + 12 * 11 + 9 * 11;
        CHECK.same("each up to its stock", y.addition(0), 12 + 12 + 9 + 11 + pairs);
        CHECK.same("all", y.addition(1), 1);
        justAThousand();
    }

    /** 1000 tries with sets behind them that have no room are all there are. */
    private static void justAThousand() {
        ColourHouse x = bench();
        int[] stock = {10, 10, 10, 10, 10, 10, 10, 10, 0, 0};
        for (int s : stock) {
            x.lot(0, 1, 1, Math.max(1, 12000 * s));
        }
        x.batch(0, 10);
        for (int i = 0; i < 8; i++) {
            x.weigh(0, i, 1);
        }
        int goal = goalOf(x);
        x.correct(0, goal, 0, 0, 1, 5);
        // 8 * 5 = 40 and 28 * 25 = 700
        added(x, 740, 1);
        x.correct(0, goal, 0, 0, 1, 6);
        // 48 and 28 * 36 = 1008
        added(x, 1000, 0);

        ColourHouse y = bench();
        for (int i = 0; i < 9; i++) {
            y.lot(0, 1, 1, 1000000);
        }
        y.batch(0, 10);
        for (int i = 0; i < 7; i++) {
            y.weigh(0, i, 1);
        }
        // 5 of each lot alone are 45; the pairs of two the bath has 21, of one 14: 35 * 25 = 875, none of 7 8
        y.correct(0, goalOf(y), 0, 0, 1, 5);
        added(y, 920, 1);

        ColourHouse z = bench();
        int[] most = {9, 9, 8, 8, 4, 1};
        for (int m : most) {
            z.lot(0, 1, 1, 1000 * m);
        }
        z.batch(0, 10);
        z.correct(0, goalOf(z), 0, 0, 1, 12);
        CHECK.same("sums of pairs", z.addition(0), 39 + (39 * 39 - 81 - 81 - 64 - 64 - 16 - 1) / 2);
    }

    private static void bathIsDownwards() {
        CHECK.promise("28, the bath");
        ColourHouse x = bench();
        x.lot(0, 3, 7, 1000000);
        x.lot(1, 1, 1, 1000000);
        x.batch(0, 7);
        x.weigh(0, 0, 5);
        // 5 * 10 / 7 is 7, and 9 * 10 / 7 is 12 of lot 0; 2 * 10 / 7 is 2 of lot 1
        int goal = goalOf(x, 0, 12, 1, 2);
        CHECK.same("correct", x.correct(0, goal, 0, 0, 2, 2), 2);
        added(x, 4 + 4, 1, 0, 4, 1, 2);
        int own = goalOf(x, 0, 7);
        CHECK.same("it is that already", x.correct(0, own, 0, 0, 2, 2), 0);
    }

    private static void measured() {
        CHECK.promise("30 measured");
        ColourHouse x = bench();
        CHECK.denied("measured(0)", x, x.measured(0), 2);
        x.batch(0, 1);
        CHECK.denied("measured(1)", x, x.measured(1), 2);
        CHECK.denied("measured(-1)", x, x.measured(-1), 2);
        CHECK.same("told(0, 8)", x.told(0, 8), 0);
        Bench.flat(x, 0.5f);
        CHECK.yes("measured(0)", x.measured(0));
        CHECK.same("trouble()", x.trouble(), 0);
        CHECK.same("told(0, 8)", x.told(0, 8), 1);
        Bench.flat(x, 0.25f);
        CHECK.bits("a copy", x.band(5, 0, 0), 0.5f);
        x.measured(0);
        CHECK.bits("anew", x.band(5, 0, 0), 0.25f);
        x.undo();
        CHECK.bits("taken back", x.band(5, 0, 15), 0.5f);
        x.undo();
        CHECK.same("not measured", x.told(0, 8), 0);
        CHECK.same("not measured", x.band(5, 0, 0), 0);
    }

    private static void passes() {
        CHECK.promise("31 passes");
        ColourHouse x = bench();
        x.batch(0, 1);
        Bench.flatChip(x, 0.25f);
        x.solid(0, 0, 0, 0, 250, 1000, 1000);
        CHECK.same("not measured", x.passes(0, 0), -1);
        x.measured(0);
        CHECK.same("inside", x.passes(0, 0), 1);
        Bench.flat(x, 0.5625f);
        x.measured(0);
        CHECK.same("on the border", x.passes(0, 0), 1);
        Bench.flat(x, 0.57f);
        x.measured(0);
        CHECK.same("outside", x.passes(0, 0), 0);
        CHECK.same("no such solid", x.passes(0, 1), -1);
        CHECK.same("no such solid", x.passes(0, -1), -1);
        CHECK.same("no such batch", x.passes(1, 0), -1);
        CHECK.same("no such batch", x.passes(-1, 0), -1);
    }

    private static void told() {
        CHECK.promise("32 told");
        ColourHouse x = bench();
        Bench.flatCloth(x, 0.5f);
        x.dye(1);
        x.cents(3, 55);
        x.lot(2, 3, 4, 500000);
        x.lot(3, 1, 1, 7);
        x.batch(1, 77);
        x.batch(0, 8);
        x.weigh(0, 0, 100);
        x.weigh(1, 0, 23);
        x.weigh(0, 0, 7);
        int[][] due = {{0, 0, 2}, {0, 1, 370000}, {0, 2, 130000}, {0, 3, 500000}, {1, 0, 3}, {1, 1, 7}, {1, 2, 0},
            {1, 3, 7}, {0, 4, 1}, {0, 5, 77}, {0, 6, 1}, {0, 7, 107}, {0, 8, 0}, {1, 4, 0}, {1, 5, 8}, {1, 7, 23},
            {0, 9, 0}, {0, 10, 1}, {0, 11, 0}, {3, 9, 1}, {3, 10, 0}, {3, 11, 55}};
        for (int[] d : due) {
            CHECK.same("told(" + d[0] + ", " + d[1] + ")", x.told(d[0], d[1]), d[2]);
        }
        for (int what = -1; what <= 12; what++) {
            CHECK.same("told(-1)", x.told(-1, what), -1);
            CHECK.same("told beyond", x.told(what >= 9 ? 4 : 2, what), -1);
        }
        CHECK.same("told(0, 12)", x.told(0, 12), -1);
        CHECK.same("told(0, -1)", x.told(0, -1), -1);
    }

    private static void weighed() {
        CHECK.promise("33 weighed");
        ColourHouse x = bench();
        for (int i = 0; i < 3; i++) {
            x.lot(i, 1, 1, 1000000);
        }
        x.batch(0, 1);
        CHECK.same("no lots", x.weighed(0, 0, false), -1);
        x.weigh(0, 2, 5);
        x.weigh(0, 0, 7);
        x.weigh(0, 2, 11);
        CHECK.same("the first", x.weighed(0, 0, false), 2);
        CHECK.same("its grams", x.weighed(0, 0, true), 16);
        CHECK.same("the second", x.weighed(0, 1, false), 0);
        CHECK.same("its grams", x.weighed(0, 1, true), 7);
        CHECK.same("no third", x.weighed(0, 2, true), -1);
        CHECK.same("none ahead", x.weighed(0, -1, false), -1);
        CHECK.same("no such batch", x.weighed(1, 0, false), -1);
        CHECK.same("no such batch", x.weighed(-1, 0, false), -1);
    }
}
