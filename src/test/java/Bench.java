/** What the tests put on the bench again and again. */
final class Bench {
    /** Weights and rows are told on these bands; all others stay 0. */
    static final int USED = 4;

    private Bench() {
    }

    static int bits(float f) {
        return Float.floatToRawIntBits(f);
    }

    /** Makes all sixteen bands of THE ROW alike. */
    static void flat(ColourHouse x, float f) {
        for (int k = 0; k < 4; k++) {
            x.bands(k, bits(f), bits(f), bits(f), bits(f));
        }
    }

    /** Makes the first four bands of THE ROW these, the others 0. */
    static void four(ColourHouse x, float a, float b, float c, float d) {
        x.bands(0, bits(a), bits(b), bits(c), bits(d));
        for (int k = 1; k < 4; k++) {
            x.bands(k, 0, 0, 0, 0);
        }
    }

    /** A light 0 of weight 1 on the first four bands, and an eye 0 that sees band 1, 0, 2 as axis 0, 1, 2. */
    static void plainSight(ColourHouse x) {
        for (int k = 0; k < USED; k++) {
            x.light(0, k, 1);
        }
        x.eye(0, 0, 1, 1);
        x.eye(0, 1, 0, 1);
        x.eye(0, 2, 2, 1);
    }

    static int flatChip(ColourHouse x, float f) {
        flat(x, f);
        return x.chip();
    }

    static int flatCloth(ColourHouse x, float f) {
        flat(x, f);
        return x.cloth();
    }

    static int flatStrength(ColourHouse x, int dye, int grams, float f) {
        flat(x, f);
        return x.strength(dye, grams);
    }

    static double quotient(float band) {
        double r = band;
        double s = Math.max(r, 0.0005);
        return (1 - s) * (1 - s) / (2 * s);
    }

    static float ofQuotient(double q) {
        double band = 1 + q - Math.sqrt(q * q + 2 * q);
        return (float) Math.max(band, 0.0);
    }
}
