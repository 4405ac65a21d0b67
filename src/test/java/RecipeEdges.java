/** Promises 22 to 24, and term IV. */
final class RecipeEdges {
    private static final Check CHECK = EdgeTests.check();
    private static final Twins TWINS = new Twins(CHECK);
    private static final int NONE = ColourHouse.NONE;
    private static final int KEPT = Twins.KEPT;
    private static final int LEAST = Integer.MIN_VALUE;
    private static final int GREATEST = Integer.MAX_VALUE;

    private RecipeEdges() {
    }

    /**
     * Cloth 0 of 1, whose quotient is 0, and dyes alike on it, 0.5 at 64 grams: an own of a quarter, so that sums of
     * grams in eights are exact in any order.
     */
    private static ColourHouse alike(int dyes) {
        ColourHouse x = new ColourHouse();
        Bench.plainSight(x);
        Bench.flatCloth(x, 1);
        Bench.flat(x, 0.5f);
        for (int d = 0; d < dyes; d++) {
            x.dye(0);
            x.strength(d, 64);
        }
        return x;
    }

    /** Cloth 0 of 1, and dyes of which each takes away light of its own from bands 0, 1, 2. */
    private static ColourHouse unlike(int dyes) {
        ColourHouse x = new ColourHouse();
        Bench.plainSight(x);
        Bench.flatCloth(x, 1);
        for (int d = 0; d < dyes; d++) {
            x.dye(0);
            float[] bands = {1, 1, 1};
            bands[d % 3] = 0.5f - 0.03f * d;
            Bench.four(x, bands[0], bands[1], bands[2], 1);
            x.strength(d, 64);
        }
        return x;
    }

    /** The chip that these dyes' grams on cloth 0 come to. */
    private static int goal(ColourHouse x, int... dyesAndGrams) {
        for (int p = 0; p < dyesAndGrams.length; p += 2) {
            x.part(false, dyesAndGrams[p], dyesAndGrams[p + 1]);
        }
        x.predict(0);
        x.pick(3, 0);
        return x.chip();
    }

    private static void told(ColourHouse x, int tries, int proved, int... dyesAndGrams) {
        CHECK.same("recipeOf(0)", x.recipeOf(0), tries);
        CHECK.same("recipeOf(1)", x.recipeOf(1), proved);
        for (int p = 0; p < 6; p++) {
            long due = p < dyesAndGrams.length ? dyesAndGrams[p] : NONE;
            CHECK.same("recipeOf(" + (p + 2) + ")", x.recipeOf(p + 2), due);
        }
    }

    static void term4_most() {
        CHECK.says("at most 1 to 3 of them (MOST)");
        ColourHouse x = alike(4);
        int goal = goal(x, 0, 256);
        CHECK.refused("MOST 0", x, x.recipe(goal, 0, 0, 0, 15, 0, 64, 1), 3);
        CHECK.same("MOST 1", x.recipe(goal, 0, 0, 0, 15, 1, 64, 1), 1);
        CHECK.same("tries", x.recipeOf(0), 1 + 4);
        CHECK.same("MOST 2", x.recipe(goal, 0, 0, 0, 15, 2, 64, 1), 2);
        CHECK.same("tries", x.recipeOf(0), 1 + 4 + 6);
        CHECK.same("MOST 3", x.recipe(goal, 0, 0, 0, 15, 3, 64, 1), 3);
        CHECK.same("tries", x.recipeOf(0), 1 + 4 + 6 + 4);
        CHECK.refused("MOST 4", x, x.recipe(goal, 0, 0, 0, 15, 4, 64, 1), 3);
        CHECK.same("fewer than MOST", x.recipe(goal, 0, 0, 0, 5, 3, 64, 1), 2);
        CHECK.same("tries", x.recipeOf(0), 1 + 2 + 1);
    }

    static void term4_gramsOfTheGrid() {
        CHECK.says("GRAMS step, 2 step .. n step (n 1 .. 12) of each");
        ColourHouse x = alike(1);
        int last = goal(x, 0, 96);
        CHECK.refused("n 0", x, x.recipe(last, 0, 0, 0, 1, 1, 8, 0), 3);
        CHECK.refused("n 13", x, x.recipe(last, 0, 0, 0, 1, 1, 8, 13), 3);
        CHECK.same("n 12", x.recipe(last, 0, 0, 0, 1, 1, 8, 12), 1);
        told(x, 13, 1, 0, 96);
        CHECK.same("the DISTANCE", x.recipeBy(0), 0);
        CHECK.same("n 11", x.recipe(last, 0, 0, 0, 1, 1, 8, 11), 1);
        told(x, 12, 1, 0, 88);
        CHECK.yes("some DISTANCE is left", x.recipeBy(0) != 0);
        int first = goal(x, 0, 8);
        CHECK.same("n 1", x.recipe(first, 0, 0, 0, 1, 1, 8, 1), 1);
        told(x, 2, 1, 0, 8);
        CHECK.same("the DISTANCE", x.recipeBy(0), 0);
    }

    static void term4_none() {
        CHECK.says("Tried are, in this order: none");
        ColourHouse x = unlike(3);
        int goal = goal(x);
        CHECK.same("an empty set", x.recipe(goal, 0, 0, 0, 0, 3, 10000, 12), 0);
        told(x, 1, 1);
        CHECK.same("the DISTANCE", x.recipeBy(0), 0);
        CHECK.same("the COST", x.recipeBy(1), 0);
        CHECK.same("none is the best", x.recipe(goal, 0, 0, 0, 7, 3, 1, 1), 0);
        told(x, 8, 1);
        ColourHouse y = new ColourHouse();
        y.cloth();
        y.chip();
        CHECK.same("without dyes", y.recipe(0, 0, 0, 0, 0, 1, 1, 1), 0);
        told(y, 1, 1);
    }

    static void term4_theLessFirst() {
        CHECK.says("of each set GRAMS by the first dye's, then the second's, then the third's, the less first.");
        ColourHouse x = alike(3);
        int two = goal(x, 0, 40);
        CHECK.same("two", x.recipe(two, 0, 0, 0, 7, 3, 8, 3), 2);
        told(x, 64, 1, 0, 16, 1, 24);
        int three = goal(x, 0, 56);
        CHECK.same("three", x.recipe(three, 0, 0, 0, 7, 3, 8, 3), 3);
        told(x, 64, 1, 0, 8, 1, 24, 2, 24);
        CHECK.same("the DISTANCE", x.recipeBy(0), 0);
        x.cents(0, 1);
        x.cents(1, 2);
        x.cents(2, 2);
        CHECK.same("by the least COST", x.recipe(three, 0, 0, 0, 7, 3, 8, 3), 3);
        told(x, 64, 1, 0, 24, 1, 8, 2, 24);
        CHECK.same("the COST", x.recipeBy(1), 24 + 16 + 48);
    }

    static void term4_setsByTheirNumbers() {
        CHECK.says("sets by their first number, then their second, then their third one");
        ColourHouse x = alike(5);
        int one = goal(x, 0, 24);
        int two = goal(x, 0, 48);
        int three = goal(x, 0, 72);
        x.recipe(one, 0, 0, 0, 28, 3, 24, 1);
        told(x, 8, 1, 2, 24);
        x.recipe(two, 0, 0, 0, 30, 3, 24, 1);
        told(x, 1 + 4 + 6 + 4, 1, 1, 24, 2, 24);
        x.recipe(three, 0, 0, 0, 31, 3, 24, 1);
        told(x, 1 + 5 + 10 + 10, 1, 0, 24, 1, 24, 2, 24);
        // the sets with dye 0, then those with dye 1 get dearer, up to the last one
        x.cents(0, 9);
        x.recipe(three, 0, 0, 0, 31, 3, 24, 1);
        told(x, 26, 1, 1, 24, 2, 24, 3, 24);
        x.cents(1, 9);
        x.recipe(three, 0, 0, 0, 31, 3, 24, 1);
        told(x, 26, 1, 2, 24, 3, 24, 4, 24);
        x.recipe(two, 0, 0, 0, 31, 2, 24, 1);
        told(x, 16, 1, 2, 24, 3, 24);
        x.cents(3, 1);
        x.recipe(two, 0, 0, 0, 31, 2, 24, 1);
        told(x, 16, 1, 2, 24, 4, 24);
    }

    static void term4_leastDistanceCostFirst() {
        CHECK.says("The first with the least DISTANCE, of those alike the least COST");
        ColourHouse x = alike(2);
        x.cents(0, 100000);
        int goal = goal(x, 0, 64);
        CHECK.same("the nearer one, dear as it is", x.recipe(goal, 0, 0, 0, 1, 1, 32, 3), 1);
        told(x, 4, 1, 0, 64);
        x.cents(1, 99999);
        CHECK.same("alike, a cent less", x.recipe(goal, 0, 0, 0, 3, 1, 32, 3), 1);
        told(x, 7, 1, 1, 64);
        CHECK.same("its COST", x.recipeBy(1), 6399936);
        x.cents(1, 100000);
        CHECK.same("alike in both", x.recipe(goal, 0, 0, 0, 3, 1, 32, 3), 1);
        told(x, 7, 1, 0, 64);
        CHECK.same("in the dark all are alike", x.recipe(goal, 0, 5, 1, 3, 2, 32, 3), 0);
        told(x, 16, 1);
    }

    /** 50,000 grams of dye 0 cost 5,000,000,000 cents, as an int 705,032,704: less than dye 1's 750,000,000. */
    static void term4_costIsALong() {
        CHECK.says("(the sum of GRAMS times the DYE's cents, a long; cents 0 at first)");
        ColourHouse x = alike(3);
        int goal = goal(x, 0, 50000);
        x.recipe(goal, 0, 0, 0, 7, 1, 10000, 12);
        told(x, 37, 1, 0, 50000);
        CHECK.same("cents 0 at first", x.recipeBy(1), 0);
        x.cents(0, 100000);
        x.cents(1, 15000);
        x.recipe(goal, 0, 0, 0, 1, 1, 10000, 12);
        CHECK.same("a COST above an int", x.recipeBy(1), 5000000000L);
        x.recipe(goal, 0, 0, 0, 3, 1, 10000, 12);
        told(x, 25, 1, 1, 50000);
        CHECK.same("the least COST", x.recipeBy(1), 750000000L);
        x.cents(1, 100000);
        x.cents(2, 100000);
        int most = goal(x, 0, 120000, 1, 120000, 2, 120000);
        x.recipe(most, 0, 0, 0, 7, 3, 10000, 12);
        CHECK.same("tries", x.recipeOf(0), 1000);
        x.recipe(most, 0, 0, 0, 7, 2, 10000, 12);
        told(x, 1 + 36 + 432, 1, 0, 120000, 1, 120000);
        CHECK.same("the greatest COST of two", x.recipeBy(1), 24000000000L);
    }

    static void term4_aThousandTries() {
        CHECK.says("After 1,000 tries, if there are more, it ends: not PROVED.");
        ColourHouse x = unlike(3);
        int last = goal(x, 0, 72, 1, 72, 2, 72);
        // 1 + 3 * 9 + 3 * 81 + 729 = 1000
        CHECK.same("just a thousand", x.recipe(last, 0, 0, 0, 7, 3, 8, 9), 3);
        told(x, 1000, 1, 0, 72, 1, 72, 2, 72);
        CHECK.same("the DISTANCE", x.recipeBy(0), 0);
        // 1 + 3 * 10 + 3 * 100 = 331 are ahead of the triples, and 669 of these are 6 times 100, 6 times 10 and 9
        int thousandth = goal(x, 0, 56, 1, 56, 2, 72);
        CHECK.same("the thousandth", x.recipe(thousandth, 0, 0, 0, 7, 3, 8, 10), 3);
        told(x, 1000, 0, 0, 56, 1, 56, 2, 72);
        CHECK.same("the DISTANCE", x.recipeBy(0), 0);
        int beyond = goal(x, 0, 56, 1, 56, 2, 80);
        x.recipe(beyond, 0, 0, 0, 7, 3, 8, 10);
        told(x, 1000, 0, 0, 56, 1, 56, 2, 72);
        CHECK.yes("the one behind it isn't tried", x.recipeBy(0) != 0);
        x.recipe(beyond, 0, 0, 0, 7, 2, 8, 10);
        CHECK.same("fewer than a thousand", x.recipeOf(0), 331);
        CHECK.same("are PROVED", x.recipeOf(1), 1);
    }

    static void promise22_howManyDyes() {
        CHECK.says("A recipe is looked for: how many DYES the one told has (0 .. 3).");
        ColourHouse x = unlike(3);
        int acts = x.count(7);
        int[] goals = {goal(x), goal(x, 1, 8), goal(x, 0, 8, 2, 8), goal(x, 0, 8, 1, 8, 2, 8)};
        for (int n = 0; n < 4; n++) {
            x.measure(0, 0, 0);
            CHECK.same("of " + n + " dyes", x.recipe(goals[n], 0, 0, 0, 7, 3, 8, 1), n);
            CHECK.same("trouble()", x.trouble(), 0);
        }
        CHECK.same("no act", x.count(7), acts + 4);
        CHECK.same("the ends of all", x.recipe(goals[0], 0, 5, 1, 7, 3, 10000, 12), 0);
        CHECK.same("the ends of all", x.recipe(goals[0], 0, 0, 0, 0, 1, 1, 1), 0);
    }

    static void promise22_noSuchChipOrCloth() {
        CHECK.says("NONE, and the latest one stays: trouble 2 if there is no such chip or CLOTH");
        int[] chips = {-1, 4, 40, LEAST, GREATEST};
        int[] cloths = {-1, 2, 8, LEAST, GREATEST};
        for (int n = 0; n < 5; n++) {
            int chip = chips[n];
            int cloth = cloths[n];
            TWINS.refusedOnRich("recipe(" + chip + ", 0 ..)", x -> x.recipe(chip, 0, 0, 0, 3, 1, 5, 2), NONE, 2);
            TWINS.refusedOnRich("recipe(0, " + cloth + " ..)", x -> x.recipe(0, cloth, 0, 0, 3, 1, 5, 2), NONE, 2);
        }
        TWINS.refusedOnRich("recipe(4, 0 ..), other numbers", x -> x.recipe(4, 0, 9, 9, -1, 9, 0, 0), NONE, 2);
        TWINS.refusedOnRich("recipe(0, 2 ..), other numbers", x -> x.recipe(0, 2, 9, 9, -1, 9, 0, 0), NONE, 2);
    }

    static void promise22_otherNumbers() {
        CHECK.says("else 3 for another LIGHT, EYE, MOST (1 .. 3), step (1 .. 10,000), n, "
            + "or a set with a DYE that isn't there.");
        int[][] wrong = {{-1, 0, 3, 1, 5, 2}, {6, 0, 3, 1, 5, 2}, {LEAST, 0, 3, 1, 5, 2}, {GREATEST, 0, 3, 1, 5, 2},
            {0, -1, 3, 1, 5, 2}, {0, 2, 3, 1, 5, 2}, {0, LEAST, 3, 1, 5, 2}, {0, GREATEST, 3, 1, 5, 2},
            {0, 0, 4, 1, 5, 2}, {0, 0, 7, 1, 5, 2}, {0, 0, -1, 1, 5, 2}, {0, 0, LEAST, 1, 5, 2}, {0, 0, 4096, 1, 5, 2},
            {0, 0, GREATEST, 1, 5, 2}, {0, 0, 3, 0, 5, 2}, {0, 0, 3, 4, 5, 2}, {0, 0, 3, LEAST, 5, 2},
            {0, 0, 3, GREATEST, 5, 2}, {0, 0, 3, 1, 0, 2}, {0, 0, 3, 1, 10001, 2}, {0, 0, 3, 1, LEAST, 2},
            {0, 0, 3, 1, GREATEST, 2}, {0, 0, 3, 1, 5, 0}, {0, 0, 3, 1, 5, 13}, {0, 0, 3, 1, 5, LEAST},
            {0, 0, 3, 1, 5, GREATEST}};
        for (int[] w : wrong) {
            String call = "recipe(0, 0, " + w[0] + ", " + w[1] + ", " + w[2] + ", " + w[3] + ", " + w[4] + ", " + w[5];
            TWINS.refusedOnRich(call + ")", x -> x.recipe(0, 0, w[0], w[1], w[2], w[3], w[4], w[5]), NONE, 3);
        }
    }

    static void promise22_setOfTwelve() {
        CHECK.says("or a set with a DYE that isn't there.");
        ColourHouse x = new ColourHouse();
        x.cloth();
        x.chip();
        CHECK.refused("dye 0 without dyes", x, x.recipe(0, 0, 0, 0, 1, 1, 1, 1), 3);
        for (int d = 0; d < 12; d++) {
            CHECK.refused("dye " + d, x, x.recipe(0, 0, 0, 0, 1 << d, 1, 1, 1), 3);
            x.dye(0);
            CHECK.same("dye " + d, x.recipe(0, 0, 0, 0, 1 << d, 1, 1, 1), 0);
            CHECK.same("tries", x.recipeOf(0), 2);
        }
        CHECK.same("all twelve", x.recipe(0, 0, 0, 0, 4095, 1, 1, 12), 0);
        CHECK.same("tries", x.recipeOf(0), 145);
        CHECK.refused("bit 12", x, x.recipe(0, 0, 0, 0, 4096, 1, 1, 1), 3);
        CHECK.refused("bit 31", x, x.recipe(0, 0, 0, 0, LEAST, 1, 1, 1), 3);
        CHECK.refused("all bits", x, x.recipe(0, 0, 0, 0, -1, 1, 1, 1), 3);
        x.undo();
        CHECK.refused("dye 11 was taken back", x, x.recipe(0, 0, 0, 0, 2048, 1, 1, 1), 3);
        CHECK.same("the latest one stays", x.recipeOf(0), 145);
    }

    static void promise23_tries() {
        CHECK.says("what 0: how many tries, 1: whether it is PROVED (1)");
        ColourHouse x = unlike(4);
        int goal = goal(x, 0, 8);
        x.recipe(goal, 0, 0, 0, 1, 1, 8, 1);
        told(x, 2, 1, 0, 8);
        x.recipe(goal, 0, 0, 0, 15, 3, 8, 6);
        // 1 + 24 + 6 * 36 + 4 * 216 = 1105
        told(x, 1000, 0, 0, 8);
        x.recipe(goal, 0, 0, 0, 15, 2, 8, 12);
        // 1 + 48 + 6 * 144
        told(x, 913, 1, 0, 8);
    }

    static void promise23_others() {
        CHECK.says("2 and 4, 6: its DYES, 3 and 5, 7: their GRAMS (NONE for others).");
        ColourHouse x = unlike(3);
        int[] goals = {goal(x), goal(x, 1, 8), goal(x, 0, 16, 2, 8), goal(x, 0, 8, 1, 16, 2, 8)};
        int[][] due = {{}, {1, 8}, {0, 16, 2, 8}, {0, 8, 1, 16, 2, 8}};
        int[] others = {-1, 8, 9, LEAST, GREATEST};
        for (int n = 0; n < 4; n++) {
            x.recipe(goals[n], 0, 0, 0, 7, 3, 8, 2);
            told(x, 1 + 6 + 12 + 8, 1, due[n]);
            for (int what : others) {
                CHECK.same("recipeOf(" + what + ")", x.recipeOf(what), NONE);
            }
        }
        TWINS.refusedOnRich("recipeOf(8)", y -> y.recipeOf(8), NONE, KEPT);
        TWINS.refusedOnRich("recipeOf(-1)", y -> y.recipeOf(-1), NONE, KEPT);
    }

    static void promise23_aheadOfAny() {
        CHECK.says("NONE ahead of any.");
        ColourHouse x = unlike(1);
        x.recipe(0, 0, 0, 0, 1, 1, 1, 1);
        CHECK.same("a recipe() that was NONE", x.trouble(), 2);
        for (int what = -1; what <= 8; what++) {
            CHECK.same("recipeOf(" + what + ")", x.recipeOf(what), NONE);
        }
        x.recipe(goal(x), 0, 0, 0, 1, 1, 1, 1);
        CHECK.same("behind one", x.recipeOf(0), 2);
        int acts = x.count(7);
        for (int n = 0; n < acts; n++) {
            x.undo();
        }
        CHECK.same("it isn't taken back", x.recipeOf(0), 2);
    }

    static void promise24_others() {
        CHECK.says("what 0: the bits of the DISTANCE, 1: the COST; 0 for others, and ahead of any.");
        ColourHouse x = unlike(2);
        x.cents(0, 7);
        int[] others = {-1, 2, 3, LEAST, GREATEST};
        for (int what = 0; what <= 1; what++) {
            CHECK.same("recipeBy(" + what + ") ahead of any", x.recipeBy(what), 0);
        }
        x.recipe(9, 0, 0, 0, 1, 1, 1, 1);
        CHECK.same("behind one that was NONE", x.recipeBy(0), 0);
        int goal = goal(x, 0, 16, 1, 8);
        CHECK.same("recipe", x.recipe(goal, 0, 0, 0, 1, 1, 8, 3), 1);
        CHECK.same("the COST", x.recipeBy(1), x.recipeOf(3) * 7L);
        x.part(false, 0, x.recipeOf(3));
        x.predict(0);
        x.pick(3, 0);
        CHECK.yes("some DISTANCE is left", x.recipeBy(0) != 0);
        CHECK.same("the DISTANCE", x.recipeBy(0), x.distance(x.chip(), goal, 0, 0));
        for (int what : others) {
            CHECK.same("recipeBy(" + what + ")", x.recipeBy(what), 0);
        }
        TWINS.refusedOnRich("recipeBy(2)", y -> y.recipeBy(2), 0, KEPT);
        TWINS.refusedOnRich("recipeBy(-1)", y -> y.recipeBy(-1), 0, KEPT);
    }
}
