/** What the tests put on the bench again and again. */
final class Bench {
    /** Weights and rows are told on these bands; all others stay 0. */
    static final int USED = 4;

    private Bench() {
    }

    static int bits(float f) {
        return Float.floatToRawIntBits(f);
    }

    /** Makes all sixteen bands of THE ROW alike. */
    static void flat(ColourHouse x, float f) {
        for (int k = 0; k < 4; k++) {
            x.bands(k, bits(f), bits(f), bits(f), bits(f));
        }
    }

    /** Makes the first four bands of THE ROW these, the others 0. */
    static void four(ColourHouse x, float a, float b, float c, float d) {
        x.bands(0, bits(a), bits(b), bits(c), bits(d));
        for (int k = 1; k < 4; k++) {
            x.bands(k, 0, 0, 0, 0);
        }
    }

    /** A light 0 of weight 1 on the first four bands, and an eye 0 that sees band 1, 0, 2 as axis 0, 1, 2. */
    static void plainSight(ColourHouse x) {
        for (int k = 0; k < USED; k++) {
            x.light(0, k, 1);
        }
        x.eye(0, 0, 1, 1);
        x.eye(0, 1, 0, 1);
        x.eye(0, 2, 2, 1);
    }

    static int flatChip(ColourHouse x, float f) {
        flat(x, f);
        return x.chip();
    }

    static int flatCloth(ColourHouse x, float f) {
        flat(x, f);
        return x.cloth();
    }

    static int flatStrength(ColourHouse x, int dye, int grams, float f) {
        flat(x, f);
        return x.strength(dye, grams);
    }

    static double quotient(float band) {
        double r = band;
        double s = Math.max(r, 0.0005);
        return (1 - s) * (1 - s) / (2 * s);
    }

    static float ofQuotient(double q) {
        double band = 1 + q - Math.sqrt(q * q + 2 * q);
        return (float) Math.max(band, 0.0);
    }

    /** Light 0 and eye 0 weigh each band otherwise; the other lights and eye 1 a band or two. 51 calls. */
    static void fullSight(ColourHouse x) {
        for (int k = 0; k < 16; k++) {
            x.light(0, k, 1000 + 77 * k * k);
            x.eye(0, 1, k, 500 + 31 * k);
        }
        for (int n = 0; n < 3; n++) {
            x.eye(0, 0, 4 + n, 10 + n);
            x.eye(0, 2, 11 + n, 30 - n);
            x.eye(1, n, n, 5 + n);
        }
        for (int light = 1; light < 6; light++) {
            x.light(light, light - 1, light);
            x.light(light, light + 8, 2);
        }
    }

    /** Makes the sixteen bands of THE ROW all different, from this one up. */
    static void slope(ColourHouse x, float from) {
        for (int k = 0; k < 4; k++) {
            float f = from + 0.04f * k;
            x.bands(k, bits(f), bits(f + 0.01f), bits(f + 0.02f), bits(f + 0.03f));
        }
    }

    /**
     * Something of everything: 4 chips (1 was measured anew), 2 cloths, 2 dyes of 2 and 1 strengths, 2 solids, 2 lots
     * of 30,000 and 85,000 milligrams left, 2 batches (0 was measured) of one lot each, 2 PARTS, 23 acts, a
     * prediction, a recipe, an addition, OUT and another LETTER; trouble() is 4. Some 150 calls.
     */
    static void rich(ColourHouse x) {
        fullSight(x);
        x.measure(2, 3, 5);
        slope(x, 0.3f);
        x.cloth();
        flat(x, 0.9f);
        x.cloth();
        richDyes(x);
        slope(x, 0.2f);
        x.chip();
        flat(x, 0.35f);
        x.chip();
        slope(x, 0.15f);
        x.chip();
        x.blend(0, 1, 1, 3);
        x.solid(0, 0, 0, 0, 100, 200, 300);
        x.solid(1, 1, 1, 1, 300, 200, 100);
        slope(x, 0.31f);
        x.remeasure(1);
        richBatches(x);
        x.part(false, 0, 120);
        x.predict(1);
        x.part(false, 0, 40);
        x.part(true, 1, 9);
        x.recipe(2, 0, 0, 0, 3, 2, 20, 3);
        x.correct(0, 2, 0, 0, 2, 5);
        x.pack(1, 1);
        x.post();
        x.pack(2, 0);
        slope(x, 0.12f);
        x.weigh(0, 0, 31);
    }

    private static void richDyes(ColourHouse x) {
        x.dye(0);
        x.dye(1);
        slope(x, 0.05f);
        x.strength(0, 50);
        flat(x, 0.04f);
        x.strength(0, 200);
        slope(x, 0.1f);
        x.strength(1, 80);
        x.cents(0, 7);
        x.cents(1, 3);
    }

    private static void richBatches(ColourHouse x) {
        x.lot(0, 3, 7, 50000);
        x.lot(1, 2, 1, 90000);
        x.batch(0, 10);
        x.batch(1, 30);
        x.weigh(0, 0, 20);
        x.weigh(1, 1, 5);
        flat(x, 0.22f);
        x.measured(0);
    }
}
