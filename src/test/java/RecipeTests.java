/** Promises 22 to 24. */
final class RecipeTests {
    private static final Check CHECK = new Check();

    public static void main(String[] args) {
        refusals();
        aheadOfAny();
        nothingToTry();
        oneDye();
        gramsAlike();
        costAlike();
        firstAlike();
        pairsAndTriples();
        orderOfTriples();
        thousandTries();
        justAThousandAreProved();
        resultStays();
        CHECK.end("RecipeTests");
    }

    /** Sight on the first bands, cloth 0 of 0.9, and dyes 0 .. n - 1 on it, each a strength of its own. */
    private static ColourHouse bench(int n) {
        ColourHouse x = new ColourHouse();
        Bench.plainSight(x);
        Bench.flatCloth(x, 0.9f);
        for (int d = 0; d < n; d++) {
            x.dye(0);
            float[] bands = {0.9f, 0.9f, 0.9f, 0.9f};
            bands[d % 3] = 0.3f - 0.02f * d;
            Bench.four(x, bands[0], bands[1], bands[2], bands[3]);
            x.strength(d, 100);
        }
        return x;
    }

    /** The chip that a dye's grams on cloth 0 come to. */
    private static int goalOf(ColourHouse x, int... dyesAndGrams) {
        for (int p = 0; p < dyesAndGrams.length; p += 2) {
            x.part(false, dyesAndGrams[p], dyesAndGrams[p + 1]);
        }
        x.predict(0);
        x.pick(3, 0);
        return x.chip();
    }

    private static void told(ColourHouse x, int tries, int proved, int... dyesAndGrams) {
        CHECK.same("recipeOf(0)", x.recipeOf(0), tries);
        CHECK.same("recipeOf(1)", x.recipeOf(1), proved);
        for (int p = 0; p < 6; p++) {
            long due = p < dyesAndGrams.length ? dyesAndGrams[p] : -1;
            CHECK.same("recipeOf(" + (p + 2) + ")", x.recipeOf(p + 2), due);
        }
        CHECK.same("recipeOf(8)", x.recipeOf(8), -1);
        CHECK.same("recipeOf(-1)", x.recipeOf(-1), -1);
        CHECK.same("recipeBy(2)", x.recipeBy(2), 0);
        CHECK.same("recipeBy(-1)", x.recipeBy(-1), 0);
    }

    private static void refusals() {
        CHECK.promise("22 recipe");
        ColourHouse x = bench(3);
        CHECK.refused("no such chip", x, x.recipe(0, 0, 9, 9, -1, 9, 0, 0), 2);
        goalOf(x);
        CHECK.refused("no such chip", x, x.recipe(-1, 0, 0, 0, 1, 1, 1, 1), 2);
        CHECK.refused("no such cloth", x, x.recipe(0, 1, 0, 0, 1, 1, 1, 1), 2);
        CHECK.refused("no such cloth", x, x.recipe(0, -1, 0, 0, 1, 1, 1, 1), 2);
        int[][] wrong = {{-1, 0, 1, 1, 1, 1}, {6, 0, 1, 1, 1, 1}, {0, -1, 1, 1, 1, 1}, {0, 2, 1, 1, 1, 1},
            {0, 0, 8, 1, 1, 1}, {0, 0, -1, 1, 1, 1}, {0, 0, Integer.MIN_VALUE, 1, 1, 1}, {0, 0, 9, 1, 1, 1},
            {0, 0, 1, 0, 1, 1}, {0, 0, 1, 4, 1, 1}, {0, 0, 1, 1, 0, 1}, {0, 0, 1, 1, 10001, 1},
            {0, 0, 1, 1, 1, 0}, {0, 0, 1, 1, 1, 13}};
        for (int[] w : wrong) {
            CHECK.refused("recipe", x, x.recipe(0, 0, w[0], w[1], w[2], w[3], w[4], w[5]), 3);
        }
        CHECK.same("none was looked for", x.recipeOf(0), -1);
        CHECK.same("the edges", x.recipe(0, 0, 5, 1, 7, 3, 10000, 12), 0);
        CHECK.same("trouble()", x.trouble(), 0);
        CHECK.same("1 + 36 + 3 * 144, then up to a thousand", x.recipeOf(0), 1000);
    }

    private static void aheadOfAny() {
        CHECK.promise("23 and 24, ahead of any");
        ColourHouse x = new ColourHouse();
        for (int what = -1; what <= 8; what++) {
            CHECK.same("recipeOf", x.recipeOf(what), -1);
            CHECK.same("recipeBy", x.recipeBy(what), 0);
        }
        CHECK.same("recipeOf", x.recipeOf(Integer.MIN_VALUE), -1);
        CHECK.same("recipeOf", x.recipeOf(Integer.MAX_VALUE), -1);
    }

    private static void nothingToTry() {
        CHECK.promise("22 to 24, none");
        ColourHouse x = bench(2);
        int goal = goalOf(x);
        CHECK.same("the bare cloth", x.recipe(goal, 0, 0, 0, 3, 1, 100, 2), 0);
        told(x, 5, 1);
        CHECK.bits("distance", x.recipeBy(0), 0.0);
        CHECK.same("cost", x.recipeBy(1), 0);
        CHECK.same("an empty set", x.recipe(goal, 0, 0, 0, 0, 3, 1, 12), 0);
        told(x, 1, 1);
        CHECK.same("no act", x.count(7), 6);
    }

    private static void oneDye() {
        CHECK.promise("22 to 24, one dye");
        ColourHouse x = bench(3);
        int goal = goalOf(x, 1, 60);
        int acts = x.count(7);
        x.cents(1, 100000);
        CHECK.same("recipe", x.recipe(goal, 0, 0, 0, 7, 1, 20, 12), 1);
        told(x, 37, 1, 1, 60);
        CHECK.bits("distance", x.recipeBy(0), 0.0);
        CHECK.same("cost", x.recipeBy(1), 6000000);
        CHECK.same("no act but the cents", x.count(7), acts + 1);
        CHECK.same("without it", x.recipe(goal, 0, 0, 0, 5, 1, 20, 12), 0);
        told(x, 25, 1);
        double gap = Double.longBitsToDouble(x.recipeBy(0));
        CHECK.yes("some distance is left", gap > 0);
        CHECK.bits("the prediction stays", x.band(3, 0, 3), 0.9f);
    }

    private static void gramsAlike() {
        CHECK.promise("22 to 24, the less grams first");
        ColourHouse x = new ColourHouse();
        Bench.plainSight(x);
        Bench.flatCloth(x, 0.9f);
        x.dye(0);
        Bench.flatChip(x, 0.1f);
        CHECK.same("a dye without strengths", x.recipe(0, 0, 0, 0, 1, 1, 5, 12), 0);
        told(x, 13, 1);
    }

    /** Dyes 0 and 1 alike: their distances are, so that the cost tells, and then the order. */
    private static ColourHouse twins() {
        ColourHouse x = new ColourHouse();
        Bench.plainSight(x);
        Bench.flatCloth(x, 0.9f);
        x.dye(0);
        x.dye(0);
        Bench.flat(x, 0.2f);
        x.strength(0, 50);
        x.strength(1, 50);
        return x;
    }

    private static void costAlike() {
        CHECK.promise("22 to 24, the least cost");
        ColourHouse x = twins();
        int goal = goalOf(x, 0, 50);
        x.cents(0, 3);
        x.cents(1, 2);
        CHECK.same("recipe", x.recipe(goal, 0, 0, 0, 3, 1, 10, 12), 1);
        told(x, 25, 1, 1, 50);
        CHECK.same("cost", x.recipeBy(1), 100);
        x.cents(1, 4);
        x.recipe(goal, 0, 0, 0, 3, 1, 10, 12);
        told(x, 25, 1, 0, 50);
        CHECK.same("cost", x.recipeBy(1), 150);
    }

    private static void firstAlike() {
        CHECK.promise("22 to 24, the first");
        ColourHouse x = twins();
        int goal = goalOf(x, 1, 50);
        x.cents(0, 7);
        x.cents(1, 7);
        x.recipe(goal, 0, 0, 0, 3, 2, 10, 5);
        told(x, 1 + 10 + 25, 1, 0, 50);
        CHECK.same("in the dark the first and cheapest", x.recipe(goal, 0, 3, 0, 3, 2, 10, 5), 0);
        told(x, 36, 1);
        CHECK.same("cost", x.recipeBy(1), 0);
    }

    private static void pairsAndTriples() {
        CHECK.promise("22 to 24, sets of more");
        ColourHouse x = bench(4);
        int goal = goalOf(x, 1, 30, 2, 50, 3, 20);
        CHECK.same("three", x.recipe(goal, 0, 0, 0, 15, 3, 10, 5), 3);
        told(x, 1 + 20 + 6 * 25 + 4 * 125, 1, 1, 30, 2, 50, 3, 20);
        CHECK.bits("distance", x.recipeBy(0), 0.0);
        int other = goalOf(x, 0, 20, 2, 40);
        CHECK.same("two", x.recipe(other, 0, 0, 0, 13, 2, 20, 4), 2);
        told(x, 1 + 12 + 3 * 16, 1, 0, 20, 2, 40);
        CHECK.same("fewer dyes than most", x.recipe(other, 0, 0, 0, 5, 3, 20, 4), 2);
        told(x, 1 + 8 + 16, 1, 0, 20, 2, 40);
        x.cents(0, 100000);
        x.cents(2, 100000);
        x.recipe(other, 0, 0, 0, 5, 3, 20, 4);
        CHECK.same("cost", x.recipeBy(1), 6000000L);
    }

    /** Which tries are among the first thousand tells their order. */
    private static void orderOfTriples() {
        CHECK.promise("22 to 24, the order");
        ColourHouse x = bench(4);
        // 1 + 4 * 7 + 6 * 49 = 323 tries ahead of the triples, 343 of 0 1 2, then 334 of 0 1 3: up to 6 * 49 + 5 * 7 + 5
        int last = goalOf(x, 0, 70, 1, 60, 3, 50);
        CHECK.same("the last one tried", x.recipe(last, 0, 0, 0, 15, 3, 10, 7), 3);
        told(x, 1000, 0, 0, 70, 1, 60, 3, 50);
        CHECK.bits("distance", x.recipeBy(0), 0.0);
        int beyond = goalOf(x, 0, 70, 1, 60, 3, 60);
        x.recipe(beyond, 0, 0, 0, 15, 3, 10, 7);
        CHECK.same("tries", x.recipeOf(0), 1000);
        CHECK.yes("the one behind it isn't", x.recipeBy(0) != 0);
    }

    private static void thousandTries() {
        CHECK.promise("22 to 24, a thousand tries");
        ColourHouse x = bench(12);
        int goal = goalOf(x, 11, 120);
        CHECK.same("the last single", x.recipe(goal, 0, 0, 0, 4095, 2, 10, 12), 1);
        told(x, 1000, 0, 11, 120);
        x.recipe(goal, 0, 0, 0, 4095, 1, 10, 12);
        told(x, 145, 1, 11, 120);
        // 145 tries and 5 * 144 pairs are 865; then come 135 of 0 6: eleven times 12, and three
        int pair = goalOf(x, 0, 120, 6, 30);
        x.recipe(pair, 0, 0, 0, 4095, 3, 10, 12);
        CHECK.same("the last pair", x.recipeBy(0), 0);
        told(x, 1000, 0, 0, 120, 6, 30);
        int next = goalOf(x, 0, 120, 6, 40);
        x.recipe(next, 0, 0, 0, 4095, 3, 10, 12);
        CHECK.yes("the pair behind it isn't tried", x.recipeBy(0) != 0);
    }

    private static void justAThousandAreProved() {
        CHECK.promise("22 to 24, just a thousand");
        ColourHouse x = bench(3);
        int goal = goalOf(x, 0, 90, 1, 90, 2, 90);
        // 1 + 3 * 9 + 3 * 81 + 729 = 1000
        CHECK.same("recipe", x.recipe(goal, 0, 0, 0, 7, 3, 10, 9), 3);
        told(x, 1000, 1, 0, 90, 1, 90, 2, 90);
        x.recipe(goal, 0, 0, 0, 7, 3, 10, 10);
        CHECK.same("one more each", x.recipeOf(1), 0);
    }

    private static void resultStays() {
        CHECK.promise("22 to 24, the latest stays");
        ColourHouse x = bench(2);
        int goal = goalOf(x, 1, 20);
        x.recipe(goal, 0, 0, 0, 3, 1, 10, 3);
        told(x, 7, 1, 1, 20);
        x.recipe(goal, 0, 0, 0, 7, 1, 10, 3);
        told(x, 7, 1, 1, 20);
        x.recipe(9, 0, 0, 0, 3, 1, 10, 3);
        told(x, 7, 1, 1, 20);
        x.undo();
        x.undo();
        x.undo();
        told(x, 7, 1, 1, 20);
        CHECK.same("recipeBy(0)", x.recipeBy(0), 0);
    }
}
