/** Promises 28 and 29, and the bath and CORRECT of term V. */
final class CorrectEdges {
    private static final Check CHECK = EdgeTests.check();
    private static final Twins TWINS = new Twins(CHECK);
    private static final int NONE = ColourHouse.NONE;
    private static final int KEPT = Twins.KEPT;
    private static final int LEAST = Integer.MIN_VALUE;
    private static final int GREATEST = Integer.MAX_VALUE;
    private static final int MOST_STOCK = 1000000000;
    /** Grams of lots: these and the products of each two of them have the sum 999, 1000, 1001. */
    private static final int[] STOCKS_999 = {7, 8, 10, 12, 12};
    private static final int[] STOCKS_1000 = {7, 8, 11, 11, 12};
    private static final int[] STOCKS_1001 = {8, 8, 9, 12, 12};

    private CorrectEdges() {
    }

    /**
     * Cloth 0 of 1, and three dyes of which each takes away light of its own from band 0, 1, 2: 0.5 at 64 grams, an
     * own of a quarter, so that sums of grams in eights are exact in any order.
     */
    private static ColourHouse bench() {
        ColourHouse x = new ColourHouse();
        Bench.plainSight(x);
        Bench.flatCloth(x, 1);
        for (int d = 0; d < 3; d++) {
            x.dye(0);
            float[] bands = {1, 1, 1};
            bands[d] = 0.5f;
            Bench.four(x, bands[0], bands[1], bands[2], 1);
            x.strength(d, 64);
        }
        return x;
    }

    /** Lots of these dyes with much in stock, and a batch of 10 kilos, whose bath has just the grams weighed. */
    private static ColourHouse withLots(int... dyes) {
        ColourHouse x = bench();
        for (int d : dyes) {
            x.lot(d, 1, 1, MOST_STOCK);
        }
        x.batch(0, 10);
        return x;
    }

    /** The chip that these dyes' grams on cloth 0 come to. */
    private static int goal(ColourHouse x, int... dyesAndGrams) {
        for (int p = 0; p < dyesAndGrams.length; p += 2) {
            x.part(false, dyesAndGrams[p], dyesAndGrams[p + 1]);
        }
        x.predict(0);
        x.pick(3, 0);
        return x.chip();
    }

    private static void added(ColourHouse x, int tries, int all, int... lotsAndGrams) {
        CHECK.same("addition(0)", x.addition(0), tries);
        CHECK.same("addition(1)", x.addition(1), all);
        for (int p = 0; p < 4; p++) {
            long due = p < lotsAndGrams.length ? lotsAndGrams[p] : NONE;
            CHECK.same("addition(" + (p + 2) + ")", x.addition(p + 2), due);
        }
    }

    static void term5_bathDownwards() {
        CHECK.says("Its bath is PREDICTED with its lots in order as PARTS: grams (a long) * 10 / KILOS downwards.");
        ColourHouse x = withLots(0);
        x.batch(0, 7);
        x.weigh(1, 0, 5);
        // 6 grams are 8 in 7 kilos (60 / 7), 7 are 10, and so on: all of them are other ones
        int[] due = {8, 10, 11, 12, 14, 15, 17};
        for (int n = 0; n < due.length; n++) {
            int goal = goal(x, 0, due[n]);
            CHECK.same("correct", x.correct(1, goal, 0, 0, 1, 12), 1);
            added(x, 12, 1, 0, n + 1);
        }
        int own = goal(x, 0, 7);
        CHECK.same("50 / 7 are 7", x.correct(1, own, 0, 0, 1, 12), 0);
        x.batch(0, 30);
        x.weigh(2, 0, 3);
        int two = goal(x, 0, 2);
        x.correct(2, two, 0, 0, 1, 12);
        // 6, 7, 8 grams are 2
        added(x, 12, 1, 0, 3);
        x.batch(0, 1000);
        int one = goal(x, 0, 1);
        CHECK.same("99 grams are none in a thousand kilos", x.correct(3, one, 0, 0, 11, 9), 0);
        CHECK.same("100 grams are one", x.correct(3, one, 0, 0, 10, 10), 1);
        added(x, 10, 1, 0, 100);
        x.weigh(3, 0, 99);
        CHECK.same("one more too", x.correct(3, one, 0, 0, 1, 2), 1);
        added(x, 2, 1, 0, 1);
    }

    /** A million grams, times ten in a kilo, times a thousand are far above an int; dye 4 tells the same in another way. */
    static void term5_bathAsLongs() {
        CHECK.says("grams (a long) * 10 / KILOS downwards");
        ColourHouse x = bench();
        Bench.four(x, 0.5f, 1, 1, 1);
        x.dye(0);
        x.strength(3, 10000);
        x.dye(0);
        x.strength(4, 1);
        x.lot(3, 1000, 1, MOST_STOCK);
        x.lot(3, 1000, 1, MOST_STOCK);
        x.batch(0, 1);
        for (int n = 0; n < 10; n++) {
            x.weigh(0, 0, 100000);
        }
        int goal = goal(x, 4, 1000000);
        CHECK.same("it is the goal", x.correct(0, goal, 0, 0, 10000, 12), 0);
        added(x, 10, 1);
        x.undo();
        x.undo();
        x.undo();
        CHECK.same("and one wasn't weighed", x.told(0, 7), 800000);
        x.weigh(0, 0, 100000);
        int again = goal(x, 4, 1000000);
        CHECK.same("a tenth is missing", x.correct(0, again, 0, 0, 10000, 12), 1);
        added(x, 20 + 100, 1, 0, 100000);
    }

    static void term5_lotsInOrder() {
        CHECK.says("Its bath is PREDICTED with its lots in order as PARTS");
        ColourHouse x = new ColourHouse();
        Bench.plainSight(x);
        Bench.flatCloth(x, 0.9f);
        float[] dark = {0.31f, 0.17f, 0.23f};
        double[] own = new double[3];
        for (int d = 0; d < 3; d++) {
            x.dye(0);
            Bench.flatStrength(x, d, 100, dark[d]);
            x.lot(d, 1, 1, MOST_STOCK);
            own[d] = Bench.quotient(dark[d]) - Bench.quotient(0.9f);
        }
        x.batch(0, 10);
        x.weigh(0, 2, 33);
        x.weigh(0, 0, 7);
        x.weigh(0, 1, 59);
        x.part(false, 2, 33);
        x.part(false, 0, 7);
        x.part(false, 1, 59);
        x.predict(0);
        double inOrder = Bench.quotient(0.9f) + own[2] * 0.33 + own[0] * 0.07 + own[1] * 0.59;
        CHECK.bits("the goal", x.band(3, 0, 0), Bench.ofQuotient(inOrder));
        x.pick(3, 0);
        CHECK.same("it is the goal", x.correct(0, x.chip(), 0, 0, 1, 12), 0);
        added(x, 36 + 3 * 144, 1);
    }

    static void term5_upToTwoLots() {
        CHECK.says("additions of up to two lots (one, then two, in order of numbers as in IV; "
            + "each 1 .. n times step grams, n 1 .. 12)");
        ColourHouse x = withLots(0, 1, 2);
        int one = goal(x, 1, 96);
        CHECK.refused("n 0", x, x.correct(0, one, 0, 0, 8, 0), 3);
        CHECK.refused("n 13", x, x.correct(0, one, 0, 0, 8, 13), 3);
        CHECK.same("n 12", x.correct(0, one, 0, 0, 8, 12), 1);
        added(x, 36 + 3 * 144, 1, 1, 96);
        CHECK.same("n 1", x.correct(0, one, 0, 0, 8, 1), 1);
        added(x, 3 + 3, 1, 1, 8);
        int two = goal(x, 0, 16, 2, 8);
        CHECK.same("two", x.correct(0, two, 0, 0, 8, 3), 2);
        added(x, 9 + 27, 1, 0, 16, 2, 8);
        ColourHouse y = withLots(0, 0, 0);
        int three = goal(y, 0, 48);
        CHECK.same("never three", y.correct(0, three, 0, 0, 8, 2), 2);
        added(y, 6 + 12, 1, 0, 16, 1, 16);
    }

    static void term5_inOrderOfNumbers() {
        CHECK.says("one, then two, in order of numbers as in IV");
        ColourHouse x = withLots(2, 0, 0, 0);
        int one = goal(x, 0, 16);
        x.correct(0, one, 0, 0, 8, 2);
        added(x, 8 + 24, 1, 1, 16);
        int two = goal(x, 0, 40);
        x.correct(0, two, 0, 0, 8, 3);
        added(x, 12 + 54, 1, 1, 16, 2, 24);
        x.weigh(0, 3, 8);
        x.correct(0, one, 0, 0, 8, 2);
        // what the bath has already goes by its number too
        added(x, 8 + 24, 1, 1, 8);
        int three = goal(x, 0, 48);
        x.correct(0, three, 0, 0, 8, 3);
        added(x, 12 + 54, 1, 1, 16, 2, 24);
    }

    /** Lots whose stock allows for so many grams each, and a milligram less than one more. */
    private static ColourHouse stocked(int... grams) {
        ColourHouse x = bench();
        for (int g : grams) {
            x.lot(0, 1, 1, 1000 * g + 999);
        }
        x.batch(0, 10);
        return x;
    }

    static void term5_stockIsEnough() {
        CHECK.says("added to the bath's grams as WEIGHINGS would be, where the stock is enough");
        ColourHouse x = stocked(24, 23);
        int goal = goal(x, 0, 96);
        x.correct(0, goal, 0, 0, 8, 12);
        added(x, 3 + 2 + 6, 1, 0, 24, 1, 16);
        x.weigh(0, 0, 1);
        x.correct(0, goal, 0, 0, 8, 12);
        added(x, 2 + 2 + 4, 1, 0, 16, 1, 16);
        x.weigh(0, 0, 16);
        x.weigh(0, 1, 15);
        x.correct(0, goal, 0, 0, 8, 12);
        added(x, 1, 1, 1, 8);
        x.weigh(0, 1, 1);
        CHECK.same("nothing is left to try", x.correct(0, goal, 0, 0, 8, 12), 0);
        added(x, 0, 1);
        x.undo();
        x.correct(0, goal, 0, 0, 8, 12);
        added(x, 1, 1, 1, 8);
    }

    static void term5_lotsThatThereAre() {
        CHECK.says("additions of up to two lots");
        ColourHouse x = withLots();
        for (int lots = 0; lots < 20; lots++) {
            int goal = goal(x, 0, 8 * lots);
            x.correct(0, goal, 0, 0, 8, 1);
            CHECK.same("tries of " + lots + " lots", x.addition(0), lots + lots * (lots - 1) / 2);
            x.undo();
            x.lot(lots % 2, 1, 1, MOST_STOCK);
        }
        int goal = goal(x, 0, 8, 1, 8);
        CHECK.same("of twenty", x.correct(0, goal, 0, 0, 8, 1), 2);
        added(x, 20 + 190, 1, 0, 8, 1, 8);
        for (int n = 0; n < 20; n++) {
            x.undo();
        }
        CHECK.same("nineteen lots and a goal were taken back", x.count(4), 1);
        goal = goal(x, 1, 8);
        CHECK.same("what was taken back isn't tried", x.correct(0, goal, 0, 0, 8, 1), 0);
        added(x, 1, 1);
    }

    private static ColourHouse withRoomFor(int lots) {
        ColourHouse x = withLots(0, 0, 0, 0, 0, 0, 0, 0, 1, 1);
        for (int i = 0; i < 8 - lots; i++) {
            x.weigh(0, i, 8);
        }
        return x;
    }

    static void term5_thereIsRoom() {
        CHECK.says("there is room for them");
        ColourHouse two = withRoomFor(2);
        int goal = goal(two, 0, 48, 1, 16);
        two.correct(0, goal, 0, 0, 8, 1);
        added(two, 10 + 45, 1, 8, 8, 9, 8);
        ColourHouse one = withRoomFor(1);
        goal = goal(one, 0, 56, 1, 16);
        one.correct(0, goal, 0, 0, 8, 1);
        // of the three lots that it hasn't, three pairs are left out
        added(one, 10 + 42, 1, 8, 8);
        goal = goal(one, 0, 64, 1, 8);
        one.correct(0, goal, 0, 0, 8, 1);
        added(one, 10 + 42, 1, 0, 8, 8, 8);
        ColourHouse none = withRoomFor(0);
        goal = goal(none, 0, 64, 1, 16);
        CHECK.same("no room for a new one", none.correct(0, goal, 0, 0, 8, 1), 0);
        added(none, 8 + 28, 1);
        goal = goal(none, 0, 80);
        CHECK.same("but for more of those there are", none.correct(0, goal, 0, 0, 8, 1), 2);
        added(none, 8 + 28, 1, 0, 8, 1, 8);
    }

    static void term5_noneAboveTheMost() {
        CHECK.says("none is above 100,000 grams (others are left out, and aren't tried)");
        int[][] stepAndTries = {{10000, 10}, {9091, 10}, {9090, 11}, {8334, 11}, {8333, 12}, {1, 12}};
        for (int[] s : stepAndTries) {
            ColourHouse x = withLots(0);
            int goal = goal(x, 0, 1000000);
            CHECK.same("a step of " + s[0], x.correct(0, goal, 0, 0, s[0], 12), 1);
            added(x, s[1], 1, 0, s[0] * s[1]);
        }
        ColourHouse x = withLots(0);
        x.weigh(0, 0, 100000);
        int goal = goal(x, 0, 1000000);
        CHECK.same("it may have more in all", x.correct(0, goal, 0, 0, 10000, 12), 1);
        added(x, 10, 1, 0, 100000);
    }

    static void term5_lessThanItsOwn() {
        CHECK.says("the first with the least DISTANCE, if it is less than the bath's own");
        ColourHouse x = withLots(0, 1);
        x.weigh(0, 0, 16);
        int same = goal(x, 0, 16);
        CHECK.same("the bath is the goal", x.correct(0, same, 0, 0, 8, 2), 0);
        added(x, 4 + 4, 1);
        int less = goal(x, 0, 8);
        CHECK.same("it has too much", x.correct(0, less, 0, 0, 8, 2), 0);
        CHECK.same("in the dark nothing is less", x.correct(0, less, 5, 1, 8, 2), 0);
        added(x, 4 + 4, 1);
        int more = goal(x, 0, 16, 1, 1);
        CHECK.same("far too much for a little less", x.correct(0, more, 0, 0, 64, 2), 0);
        CHECK.same("just that", x.correct(0, more, 0, 0, 1, 1), 1);
        added(x, 2 + 1, 1, 1, 1);
        ColourHouse y = withLots(0);
        y.dye(0);
        y.lot(3, 1, 1, MOST_STOCK);
        int goal = goal(y, 0, 8);
        CHECK.same("of alike ones the first", y.correct(0, goal, 0, 0, 8, 2), 1);
        added(y, 4 + 4, 1, 0, 8);
    }

    static void term5_aThousandTries() {
        CHECK.says("after 1,000 tries, if there are more, it ends.");
        int[][] stocks = {STOCKS_999, STOCKS_1000, STOCKS_1001};
        for (int n = 0; n < 3; n++) {
            ColourHouse x = stocked(stocks[n]);
            int goal = goal(x, 0, 2000);
            x.correct(0, goal, 0, 0, 1, 12);
            CHECK.same("tries of " + (999 + n), x.addition(0), Math.min(999 + n, 1000));
            CHECK.same("all of " + (999 + n), x.addition(1), n < 2 ? 1 : 0);
        }
        ColourHouse x = withLots(0, 2, 2, 2, 2, 2, 2, 1, 1, 1);
        // 10 * 12 = 120 of one lot; of two 6 * 144 = 864 with lot 0 up to lot 6, and 16 of 0 and 7: 12, then 4
        int last = goal(x, 0, 16, 1, 32);
        CHECK.same("the thousandth", x.correct(0, last, 0, 0, 8, 12), 2);
        added(x, 1000, 0, 0, 16, 7, 32);
        int next = goal(x, 0, 16, 1, 40);
        CHECK.same("not the one behind it", x.correct(0, next, 0, 0, 8, 12), 2);
        added(x, 1000, 0, 0, 16, 7, 32);
    }

    /** What is left out behind the thousandth try isn't more to try. */
    static void term5_leftOutBehindAThousand() {
        CHECK.says("(others are left out, and aren't tried)");
        ColourHouse x = bench();
        for (int g : STOCKS_1000) {
            x.lot(0, 1, 1, 1000 * g + 1999);
        }
        x.batch(0, 10);
        for (int i = 0; i < STOCKS_1000.length; i++) {
            x.weigh(0, i, 1);
        }
        for (int i = STOCKS_1000.length; i < 8; i++) {
            x.lot(0, 1, 1, 1000);
            x.weigh(0, i, 1);
        }
        x.lot(0, 1, 1, MOST_STOCK);
        x.lot(0, 1, 1, MOST_STOCK);
        int goal = goal(x, 0, 2000);
        x.correct(0, goal, 0, 0, 1, 12);
        CHECK.same("tries", x.addition(0), 1000);
        CHECK.same("all were tried", x.addition(1), 1);
        x.undo();
        x.undo();
        x.undo();
        // then there is room for a new lot
        x.undo();
        int again = goal(x, 0, 2000);
        x.correct(0, again, 0, 0, 1, 12);
        CHECK.same("tries", x.addition(0), 1000);
        CHECK.same("there is more", x.addition(1), 0);
    }

    static void promise28_howManyLots() {
        CHECK.says("An addition is looked for: how many LOTS the one told has (0 if nothing lowers the DISTANCE).");
        ColourHouse x = withLots(0, 1);
        int[] goals = {goal(x), goal(x, 1, 8), goal(x, 0, 8, 1, 8)};
        for (int n = 0; n < 3; n++) {
            x.measure(0, 0, 0);
            CHECK.same("of " + n + " lots", x.correct(0, goals[n], 0, 0, 8, 1), n);
            CHECK.same("trouble()", x.trouble(), 0);
            CHECK.same("tries", x.addition(0), 3);
        }
        CHECK.same("the ends of all", x.correct(0, goals[0], 5, 1, 10000, 12), 0);
        ColourHouse y = bench();
        y.batch(0, 1);
        CHECK.same("without lots", y.correct(0, goal(y, 0, 8), 0, 0, 1, 12), 0);
        added(y, 0, 1);
    }

    static void promise28_noSuchBatchOrChip() {
        CHECK.says("NONE, and the latest one stays: trouble 2 if there is no such BATCH or chip");
        int[] batches = {-1, 2, 12, LEAST, GREATEST};
        int[] chips = {-1, 4, 40, LEAST, GREATEST};
        for (int n = 0; n < 5; n++) {
            int batch = batches[n];
            int chip = chips[n];
            TWINS.refusedOnRich("correct(" + batch + ", 0 ..)", x -> x.correct(batch, 0, 0, 0, 3, 2), NONE, 2);
            TWINS.refusedOnRich("correct(0, " + chip + " ..)", x -> x.correct(0, chip, 0, 0, 3, 2), NONE, 2);
        }
        TWINS.refusedOnRich("correct(2, 0 ..), other numbers", x -> x.correct(2, 0, 9, 9, 0, 0), NONE, 2);
        TWINS.refusedOnRich("correct(0, 4 ..), other numbers", x -> x.correct(0, 4, 9, 9, 0, 0), NONE, 2);
    }

    static void promise28_otherNumbers() {
        CHECK.says("else 3 for another LIGHT, EYE, step (1 .. 10,000), n.");
        int[][] wrong = {{-1, 0, 3, 2}, {6, 0, 3, 2}, {LEAST, 0, 3, 2}, {GREATEST, 0, 3, 2}, {0, -1, 3, 2},
            {0, 2, 3, 2}, {0, LEAST, 3, 2}, {0, GREATEST, 3, 2}, {0, 0, 0, 2}, {0, 0, -1, 2}, {0, 0, 10001, 2},
            {0, 0, LEAST, 2}, {0, 0, GREATEST, 2}, {0, 0, 3, 0}, {0, 0, 3, -1}, {0, 0, 3, 13}, {0, 0, 3, LEAST},
            {0, 0, 3, GREATEST}};
        for (int[] w : wrong) {
            String call = "correct(0, 1, " + w[0] + ", " + w[1] + ", " + w[2] + ", " + w[3] + ")";
            TWINS.refusedOnRich(call, x -> x.correct(0, 1, w[0], w[1], w[2], w[3]), NONE, 3);
        }
    }

    static void promise28_nothingIsWeighed() {
        CHECK.says("(Nothing is weighed.)");
        ColourHouse x = withLots(0, 1);
        x.weigh(0, 1, 8);
        int goal = goal(x, 0, 24, 1, 24);
        int acts = x.count(7);
        CHECK.same("correct", x.correct(0, goal, 0, 0, 8, 3), 2);
        added(x, 6 + 9, 1, 0, 24, 1, 16);
        CHECK.same("the stock", x.told(0, 1), MOST_STOCK);
        CHECK.same("the stock", x.told(1, 1), MOST_STOCK - 8000);
        CHECK.same("its LOTS", x.told(0, 6), 1);
        CHECK.same("its grams", x.told(0, 7), 8);
        CHECK.same("no act", x.count(7), acts);
        CHECK.same("the same again", x.correct(0, goal, 0, 0, 8, 3), 2);
        x.weigh(0, x.addition(2), x.addition(3));
        x.weigh(0, x.addition(4), x.addition(5));
        CHECK.same("when it was weighed", x.correct(0, goal, 0, 0, 8, 3), 0);
    }

    static void promise29_tries() {
        CHECK.says("what 0: how many tries, 1: whether all were tried (1)");
        ColourHouse x = withLots(0, 1, 2, 0, 1, 2, 0, 1);
        int goal = goal(x, 0, 8);
        x.correct(0, goal, 0, 0, 8, 5);
        added(x, 40 + 28 * 25, 1, 0, 8);
        x.correct(0, goal, 0, 0, 8, 6);
        // 48 + 28 * 36 = 1056
        added(x, 1000, 0, 0, 8);
        x.correct(0, goal, 0, 0, 8, 1);
        added(x, 8 + 28, 1, 0, 8);
    }

    static void promise29_others() {
        CHECK.says("2 and 4: its LOTS, 3 and 5: their grams (NONE for others).");
        ColourHouse x = withLots(0, 1);
        int[] goals = {goal(x), goal(x, 1, 8), goal(x, 0, 16, 1, 8)};
        int[][] due = {{}, {1, 8}, {0, 16, 1, 8}};
        int[] others = {-1, 6, 7, 8, LEAST, GREATEST};
        for (int n = 0; n < 3; n++) {
            x.correct(0, goals[n], 0, 0, 8, 2);
            added(x, 4 + 4, 1, due[n]);
            for (int what : others) {
                CHECK.same("addition(" + what + ")", x.addition(what), NONE);
            }
        }
        TWINS.refusedOnRich("addition(6)", y -> y.addition(6), NONE, KEPT);
        TWINS.refusedOnRich("addition(-1)", y -> y.addition(-1), NONE, KEPT);
    }

    static void promise29_aheadOfAny() {
        CHECK.says("NONE ahead of any.");
        ColourHouse x = withLots(0);
        x.correct(0, 0, 0, 0, 1, 1);
        CHECK.same("a correct() that was NONE", x.trouble(), 2);
        for (int what = -1; what <= 6; what++) {
            CHECK.same("addition(" + what + ")", x.addition(what), NONE);
        }
        int goal = goal(x, 0, 8);
        x.recipe(goal, 0, 0, 0, 1, 1, 8, 1);
        CHECK.same("a recipe() is none", x.addition(0), NONE);
        x.correct(0, goal, 0, 0, 8, 1);
        added(x, 1, 1, 0, 8);
        int acts = x.count(7);
        for (int n = 0; n < acts; n++) {
            x.undo();
        }
        added(x, 1, 1, 0, 8);
    }
}
