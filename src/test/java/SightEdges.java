/** Promises 13 to 19, and the COLOURS and the DISTANCE of term III. */
final class SightEdges {
    private static final Check CHECK = EdgeTests.check();
    private static final Twins TWINS = new Twins(CHECK);
    private static final int NONE = ColourHouse.NONE;
    private static final int KEPT = Twins.KEPT;
    private static final int LEAST = Integer.MIN_VALUE;
    private static final int GREATEST = Integer.MAX_VALUE;
    private static final int MILLION = 1000000;

    private SightEdges() {
    }

    static void term3_weightsAtFirst() {
        CHECK.says("(all 0 at first)");
        ColourHouse x = new ColourHouse();
        Bench.flat(x, 2);
        x.light(0, 3, 1);
        x.eye(0, 1, 4, 1);
        for (int light = 0; light < 6; light++) {
            for (int eye = 0; eye < 2; eye++) {
                CHECK.same("colour under " + light + " for " + eye, x.colour(0, 0, light, eye, 0), 0);
            }
        }
        x.eye(0, 1, 3, 1);
        CHECK.bits("with both weights", x.colour(0, 0, 0, 0, 0), 100 * Math.sqrt(2));
        CHECK.same("for the other eye", x.colour(0, 0, 0, 1, 0), 0);
        CHECK.same("under another light", x.colour(0, 0, 1, 0, 0), 0);
    }

    static void term3_weightsOfLights() {
        CHECK.says("A LIGHT has a whole weight 0 .. 1,000,000 for each band, an EYE one for each axis and band");
        ColourHouse x = new ColourHouse();
        Bench.four(x, 0.25f, 1, 0, 0);
        CHECK.denied("light(0, 0, -1)", x, x.light(0, 0, -1), 3);
        CHECK.denied("light(0, 0, 1000001)", x, x.light(0, 0, MILLION + 1), 3);
        CHECK.denied("eye(0, 1, 0, -1)", x, x.eye(0, 1, 0, -1), 3);
        CHECK.denied("eye(0, 1, 0, 1000001)", x, x.eye(0, 1, 0, MILLION + 1), 3);
        CHECK.yes("light(0, 0, 1000000)", x.light(0, 0, MILLION));
        CHECK.yes("eye(0, 1, 0, 1000000)", x.eye(0, 1, 0, MILLION));
        CHECK.yes("light(0, 1, 1)", x.light(0, 1, 1));
        CHECK.yes("eye(0, 1, 1, 1)", x.eye(0, 1, 1, 1));
        double weight = 1e12;
        CHECK.bits("the most and the least", x.colour(0, 0, 0, 0, 0),
            100 * Math.sqrt((0.25 * weight + 1.0) / (weight + 1.0)));
        CHECK.yes("light(0, 0, 0)", x.light(0, 0, 0));
        CHECK.bits("without the first band", x.colour(0, 0, 0, 0, 0), 100.0);
        CHECK.yes("eye(0, 1, 1, 0)", x.eye(0, 1, 1, 0));
        CHECK.same("without any", x.colour(0, 0, 0, 0, 0), 0);
    }

    /** The sum of sixteen times a million times a million is far above an int, and one of these wraps as an int too. */
    static void term3_weightsAsLongs() {
        CHECK.says("w the LIGHT's weight times the EYE's (a long) as a double; by the sum of these w (a long) "
            + "as a double: the RATIO, 0 if that is 0");
        ColourHouse x = new ColourHouse();
        Bench.slope(x, 0.1f);
        double sum = 0.0;
        long all = 0;
        for (int k = 0; k < 16; k++) {
            x.light(0, k, MILLION);
            x.eye(0, 1, k, MILLION - k);
            long w = 1000000L * (MILLION - k);
            sum = sum + Float.intBitsToFloat(x.band(0, 0, k)) * (double) w;
            all += w;
        }
        CHECK.bits("the most", x.colour(0, 0, 0, 0, 0), 100 * Math.sqrt(sum / (double) all));
        CHECK.same("0 if that is 0", x.colour(0, 0, 1, 0, 0), 0);
        ColourHouse y = new ColourHouse();
        // as ints the two weights would have the sum 0: 65536 times 65536 is 2 to the 32nd
        y.light(0, 0, 65536);
        y.eye(0, 1, 0, 65536);
        Bench.flat(y, 0.25f);
        CHECK.bits("a wrap-around that isn't", y.colour(0, 0, 0, 0, 0), 50.0);
    }

    static void term3_bandByBand() {
        CHECK.says("the sum from 0.0 on, band by band, of r * w");
        ColourHouse x = new ColourHouse();
        double sum = 0.0;
        double backwards = 0.0;
        long all = 0;
        for (int k = 0; k < 16; k++) {
            float r = 0.1f + 0.07f * k;
            if (k % 4 == 0) {
                x.bands(k / 4, Bench.bits(r), Bench.bits(0.1f + 0.07f * (k + 1)), Bench.bits(0.1f + 0.07f * (k + 2)),
                    Bench.bits(0.1f + 0.07f * (k + 3)));
            }
            x.light(0, k, k < 8 ? 999983 - 31 * k : 3);
            x.eye(0, 1, k, k < 8 ? 999979 - 17 * k * k : 7 + k);
            long w = (k < 8 ? 999983 - 31 * k : 3) * (long) (k < 8 ? 999979 - 17 * k * k : 7 + k);
            sum = sum + r * (double) w;
            all += w;
        }
        for (int k = 15; k >= 0; k--) {
            long w = (k < 8 ? 999983 - 31 * k : 3) * (long) (k < 8 ? 999979 - 17 * k * k : 7 + k);
            backwards = backwards + (0.1f + 0.07f * k) * (double) w;
        }
        CHECK.yes("the order tells", sum != backwards);
        CHECK.bits("colour", x.colour(0, 0, 0, 0, 0), 100 * Math.sqrt(sum / (double) all));
    }

    static void term3_colours() {
        CHECK.says("COLOUR: 0: 100 * f(1). 1: 250 * (f(0) - f(1)). 2: 100 * (f(1) - f(2)).");
        ColourHouse x = new ColourHouse();
        Bench.plainSight(x);
        Bench.four(x, 0.3f, 0.7f, 0.11f, 0);
        double f0 = Math.sqrt(0.7f);
        double f1 = Math.sqrt(0.3f);
        double f2 = Math.sqrt(0.11f);
        CHECK.bits("colour 0", x.colour(0, 0, 0, 0, 0), 100 * f1);
        CHECK.bits("colour 1", x.colour(0, 0, 0, 0, 1), 250 * (f0 - f1));
        CHECK.bits("colour 2", x.colour(0, 0, 0, 0, 2), 100 * (f1 - f2));
        Bench.four(x, 0.7f, 0.3f, 0.75f, 0);
        CHECK.bits("colour 1 below 0", x.colour(0, 0, 0, 0, 1), 250 * (f1 - f0));
        CHECK.bits("colour 2 below 0", x.colour(0, 0, 0, 0, 2), 100 * (f0 - Math.sqrt(0.75f)));
        Bench.flat(x, 0.3f);
        CHECK.same("colour 1 of grey is 0, not -0", x.colour(0, 0, 0, 0, 1), 0);
        CHECK.same("colour 2 of grey is 0, not -0", x.colour(0, 0, 0, 0, 2), 0);
        Bench.flat(x, 0);
        CHECK.same("colour 0 of black", x.colour(0, 0, 0, 0, 0), 0);
        Bench.flat(x, 2);
        CHECK.bits("colour 0 of the lightest", x.colour(0, 0, 0, 0, 0), 100 * Math.sqrt(2));
    }

    static void term3_theMeasure() {
        CHECK.says("with THE MEASURE a, b, c (whole numbers 1 .. 100; 1 1 1 at first) as doubles.");
        ColourHouse x = new ColourHouse();
        Bench.plainSight(x);
        Bench.four(x, 0.3f, 0.7f, 0.11f, 0);
        x.chip();
        Bench.four(x, 0.5f, 0.6f, 0.9f, 0);
        x.chip();
        double u = 100 * Math.sqrt(0.3f) - 100 * Math.sqrt(0.5f);
        double v = 250 * (Math.sqrt(0.7f) - Math.sqrt(0.3f)) - 250 * (Math.sqrt(0.6f) - Math.sqrt(0.5f));
        double w = 100 * (Math.sqrt(0.3f) - Math.sqrt(0.11f)) - 100 * (Math.sqrt(0.5f) - Math.sqrt(0.9f));
        CHECK.bits("1 1 1 at first", x.distance(0, 1, 0, 0), 1.0 * u * u + 1.0 * v * v + 1.0 * w * w);
        int[][] taken = {{1, 1, 1}, {100, 1, 1}, {1, 100, 1}, {1, 1, 100}, {100, 100, 100}, {3, 7, 11}};
        for (int[] m : taken) {
            CHECK.yes("measure", x.measure(m[0], m[1], m[2]));
            CHECK.bits("distance by " + m[0] + " " + m[1] + " " + m[2], x.distance(0, 1, 0, 0),
                m[0] * u * u + m[1] * v * v + m[2] * w * w);
        }
        int[][] wrong = {{0, 1, 1}, {101, 1, 1}, {1, 0, 1}, {1, 101, 1}, {1, 1, 0}, {1, 1, 101}};
        for (int[] m : wrong) {
            CHECK.denied("measure " + m[0] + " " + m[1] + " " + m[2], x, x.measure(m[0], m[1], m[2]), 3);
            CHECK.bits("the measure stays", x.distance(0, 1, 0, 0), 3 * u * u + 7 * v * v + 11 * w * w);
        }
    }

    static void promise13_becomes() {
        CHECK.says("Weight of a band of a LIGHT becomes w (0 .. 1,000,000): true");
        ColourHouse x = new ColourHouse();
        Bench.flat(x, 0.25f);
        for (int band = 0; band <= 15; band += 15) {
            x.eye(0, 1, band, 1);
            for (int light = 0; light <= 5; light += 5) {
                int[] weights = {1, MILLION};
                for (int w : weights) {
                    x.measure(0, 0, 0);
                    CHECK.yes("light(" + light + ", " + band + ", " + w + ")", x.light(light, band, w));
                    CHECK.same("trouble()", x.trouble(), 0);
                    CHECK.bits("it weighs", x.colour(0, 0, light, 0, 0), 50.0);
                }
                CHECK.yes("light(" + light + ", " + band + ", 0)", x.light(light, band, 0));
                CHECK.same("trouble()", x.trouble(), 0);
                CHECK.same("it weighs nothing", x.colour(0, 0, light, 0, 0), 0);
            }
        }
        CHECK.same("no act", x.count(7), 0);
    }

    static void promise13_otherNumbers() {
        CHECK.says("false, trouble 3 for other numbers.");
        int[][] wrong = {{-1, 0, 9}, {6, 0, 9}, {LEAST, 0, 9}, {GREATEST, 0, 9}, {0, -1, 9}, {0, 16, 9}, {0, LEAST, 9},
            {0, GREATEST, 9}, {0, 0, -1}, {0, 0, MILLION + 1}, {0, 0, LEAST}, {0, 0, GREATEST}, {-1, -1, -1}};
        for (int[] w : wrong) {
            TWINS.refusedOnRich("light(" + w[0] + ", " + w[1] + ", " + w[2] + ")",
                x -> x.light(w[0], w[1], w[2]) ? 1 : 0, 0, 3);
        }
    }

    static void promise14_likewise() {
        CHECK.says("Weight of a band of an EYE's axis becomes w, likewise.");
        ColourHouse x = new ColourHouse();
        Bench.flat(x, 0.25f);
        x.light(0, 15, 1);
        for (int eye = 0; eye < 2; eye++) {
            x.measure(0, 0, 0);
            CHECK.yes("eye(" + eye + ", 1, 15, 1000000)", x.eye(eye, 1, 15, MILLION));
            CHECK.same("trouble()", x.trouble(), 0);
            CHECK.bits("it sees", x.colour(0, 0, 0, eye, 0), 50.0);
            CHECK.yes("eye(" + eye + ", 0, 15, 1)", x.eye(eye, 0, 15, 1));
            CHECK.yes("eye(" + eye + ", 1, 15, 0)", x.eye(eye, 1, 15, 0));
            CHECK.bits("by axis 0 alone", x.colour(0, 0, 0, eye, 1), 125.0);
            CHECK.yes("eye(" + eye + ", 2, 15, 1)", x.eye(eye, 2, 15, 1));
            CHECK.bits("by axis 2", x.colour(0, 0, 0, eye, 2), -50.0);
        }
        int[][] wrong = {{-1, 0, 0, 9}, {2, 0, 0, 9}, {LEAST, 0, 0, 9}, {GREATEST, 0, 0, 9}, {0, -1, 0, 9}, {0, 3, 0, 9},
            {1, -1, 0, 9}, {0, LEAST, 0, 9}, {0, GREATEST, 0, 9}, {0, 0, -1, 9}, {0, 0, 16, 9}, {0, 0, LEAST, 9},
            {0, 0, GREATEST, 9}, {0, 0, 0, -1}, {0, 0, 0, MILLION + 1}, {0, 0, 0, LEAST}, {0, 0, 0, GREATEST},
            // 1431655766 * 3 wraps to 2
            {1431655766, 0, 0, 9}};
        for (int[] w : wrong) {
            TWINS.refusedOnRich("eye(" + w[0] + ", " + w[1] + ", " + w[2] + ", " + w[3] + ")",
                y -> y.eye(w[0], w[1], w[2], w[3]) ? 1 : 0, 0, 3);
        }
        CHECK.same("no act", x.count(7), 0);
    }

    static void promise15_becomes() {
        CHECK.says("THE MEASURE becomes a, b, c (each 1 .. 100): true");
        ColourHouse x = new ColourHouse();
        Bench.plainSight(x);
        Bench.flatChip(x, 0.25f);
        Bench.flatChip(x, 1);
        int[] edges = {1, 2, 99, 100};
        for (int a : edges) {
            x.measure(0, 0, 0);
            CHECK.yes("measure(" + a + ", 1, 100)", x.measure(a, 1, 100));
            CHECK.same("trouble()", x.trouble(), 0);
            CHECK.bits("distance", x.distance(0, 1, 0, 0), a * 2500.0);
            CHECK.yes("measure(" + a + ", 100, 1)", x.measure(a, 100, 1));
            CHECK.bits("distance", x.distance(0, 1, 0, 0), a * 2500.0);
        }
        CHECK.same("no act", x.count(7), 2);
    }

    static void promise15_others() {
        CHECK.says("false, trouble 3 for others.");
        int[] wrong = {0, -1, 101, LEAST, GREATEST};
        for (int w : wrong) {
            TWINS.refusedOnRich("measure(" + w + ", 1, 1)", x -> x.measure(w, 1, 1) ? 1 : 0, 0, 3);
            TWINS.refusedOnRich("measure(1, " + w + ", 1)", x -> x.measure(1, w, 1) ? 1 : 0, 0, 3);
            TWINS.refusedOnRich("measure(1, 1, " + w + ")", x -> x.measure(1, 1, w) ? 1 : 0, 0, 3);
        }
    }

    static void promise16_spectra() {
        CHECK.says("a spectrum (sort, i as in band() but 4)");
        ColourHouse x = new ColourHouse();
        Bench.rich(x);
        int[][] taken = {{0, LEAST}, {0, GREATEST}, {1, 0}, {1, 3}, {2, 0}, {2, 1}, {3, LEAST}, {3, GREATEST}, {5, 0}};
        for (int[] t : taken) {
            for (int k = 0; k < 3; k++) {
                long due = x.colour(t[0], t[1], 0, 0, k);
                CHECK.yes("colour(" + t[0] + ", " + t[1] + ", 0, 0, " + k + ") is one", due != 0 || k > 0);
                if (t[0] != 0) {
                    x.pick(t[0], t[1]);
                }
                CHECK.same("colour " + k + " of what was picked", x.colour(0, 0, 0, 0, k), due);
            }
        }
        CHECK.same("not of a drift", x.colour(4, 1, 0, 0, 0), 0);
    }

    static void promise16_bits() {
        CHECK.says("The bits (a long) of COLOUR k");
        ColourHouse x = new ColourHouse();
        Bench.four(x, 1, 0, 0, 0);
        x.light(0, 0, 1);
        x.light(0, 1, 9999);
        x.eye(0, 1, 0, 1);
        x.eye(0, 1, 1, 1);
        x.eye(1, 2, 0, 1);
        x.eye(1, 2, 1, 1);
        CHECK.bits("a colour of 1", x.colour(0, 0, 0, 0, 0), 1.0);
        CHECK.bits("a colour of -1", x.colour(0, 0, 0, 1, 2), -1.0);
        CHECK.bits("a colour of -2.5", x.colour(0, 0, 0, 0, 1), -2.5);
        CHECK.same("a colour of 0", x.colour(0, 0, 0, 1, 0), 0);
        CHECK.same("a colour of 0 less 0", x.colour(0, 0, 0, 1, 1), 0);
        Bench.four(x, 2, 2, 0, 0);
        CHECK.bits("the greatest", x.colour(0, 0, 0, 0, 2), 100 * Math.sqrt(2));
        CHECK.bits("the least", x.colour(0, 0, 0, 0, 1), -250 * Math.sqrt(2));
        x.bands(0, 1, 0, 0, 0);
        CHECK.bits("next to 0", x.colour(0, 0, 0, 0, 0), 100 * Math.sqrt(Float.MIN_VALUE / 10000.0));
    }

    static void promise16_noneSuch() {
        CHECK.says("0 where there is none such.");
        int[][] none = {{-1, 0, 0, 0, 0}, {4, 1, 0, 0, 0}, {6, 0, 0, 0, 0}, {LEAST, 0, 0, 0, 0}, {GREATEST, 0, 0, 0, 0},
            {1, -1, 0, 0, 0}, {1, 4, 0, 0, 0}, {1, LEAST, 0, 0, 0}, {1, GREATEST, 0, 0, 0}, {2, -1, 0, 0, 0},
            {2, 2, 0, 0, 0}, {5, -1, 0, 0, 0}, {5, 1, 0, 0, 0}, {5, 2, 0, 0, 0}, {0, 0, -1, 0, 0}, {0, 0, 6, 0, 0},
            {0, 0, LEAST, 0, 0}, {0, 0, GREATEST, 0, 0}, {0, 0, 0, -1, 0}, {0, 0, 0, 2, 0}, {0, 0, 0, LEAST, 0},
            {0, 0, 0, GREATEST, 0}, {0, 0, 0, 0, -1}, {0, 0, 0, 0, 3}, {0, 0, 0, 0, LEAST}, {0, 0, 0, 0, GREATEST}};
        for (int[] n : none) {
            TWINS.refusedOnRich("colour(" + n[0] + ", " + n[1] + ", " + n[2] + ", " + n[3] + ", " + n[4] + ")",
                x -> x.colour(n[0], n[1], n[2], n[3], n[4]), 0, KEPT);
        }
        ColourHouse empty = new ColourHouse();
        Bench.plainSight(empty);
        CHECK.same("no PREDICTION yet", empty.colour(3, 0, 0, 0, 0), 0);
    }

    static void promise17_oneIsNotThere() {
        CHECK.says("NONE if one isn't there, or for another LIGHT or EYE.");
        int[][] none = {{-1, 0, 0, 0}, {4, 0, 0, 0}, {LEAST, 0, 0, 0}, {GREATEST, 0, 0, 0}, {0, -1, 0, 0}, {0, 4, 0, 0},
            {0, LEAST, 0, 0}, {0, GREATEST, 0, 0}, {0, 1, -1, 0}, {0, 1, 6, 0}, {0, 1, LEAST, 0}, {0, 1, GREATEST, 0},
            {0, 1, 0, -1}, {0, 1, 0, 2}, {0, 1, 0, LEAST}, {0, 1, 0, GREATEST}};
        for (int[] n : none) {
            TWINS.refusedOnRich("distance(" + n[0] + ", " + n[1] + ", " + n[2] + ", " + n[3] + ")",
                x -> x.distance(n[0], n[1], n[2], n[3]), -1L, KEPT);
        }
    }

    static void promise17_ofTwo() {
        CHECK.says("The bits of the DISTANCE of chips a and b");
        ColourHouse x = new ColourHouse();
        Bench.rich(x);
        for (int light = 0; light < 6; light += 5) {
            for (int eye = 0; eye < 2; eye++) {
                double[] d = new double[3];
                for (int k = 0; k < 3; k++) {
                    d[k] = Double.longBitsToDouble(x.colour(1, 0, light, eye, k))
                        - Double.longBitsToDouble(x.colour(1, 3, light, eye, k));
                }
                double due = 2.0 * d[0] * d[0] + 3.0 * d[1] * d[1] + 5.0 * d[2] * d[2];
                CHECK.bits("distance(0, 3, " + light + ", " + eye + ")", x.distance(0, 3, light, eye), due);
                CHECK.bits("distance(3, 0, " + light + ", " + eye + ")", x.distance(3, 0, light, eye), due);
                CHECK.same("of one and the same", x.distance(3, 3, light, eye), 0);
            }
        }
    }

    static void promise18_kth() {
        CHECK.says("The k-th nearest chip (from 0 on) to the PREDICTION");
        ColourHouse x = new ColourHouse();
        Bench.plainSight(x);
        Bench.flatCloth(x, 1);
        x.predict(0);
        CHECK.same("no chip", x.nearest(0, 0, 0), NONE);
        float[] greys = {0.25f, 1, 0.5f, 1, 0.25f, 0.75f};
        int[] due = {1, 3, 5, 2, 0, 4};
        for (float g : greys) {
            Bench.flatChip(x, g);
        }
        for (int k = 0; k < due.length; k++) {
            CHECK.same("nearest(0, 0, " + k + ")", x.nearest(0, 0, k), due[k]);
            CHECK.same("under a dark light", x.nearest(5, 1, k), k);
        }
        CHECK.same("one beyond", x.nearest(0, 0, due.length), NONE);
    }

    static void promise18_withoutOne() {
        CHECK.says("NONE without one, or for another LIGHT or EYE.");
        int[][] none = {{-1, 0, 0}, {6, 0, 0}, {LEAST, 0, 0}, {GREATEST, 0, 0}, {0, -1, 0}, {0, 2, 0}, {0, LEAST, 0},
            {0, GREATEST, 0}, {0, 0, -1}, {0, 0, 4}, {0, 0, LEAST}, {0, 0, GREATEST}};
        for (int[] n : none) {
            TWINS.refusedOnRich("nearest(" + n[0] + ", " + n[1] + ", " + n[2] + ")",
                x -> x.nearest(n[0], n[1], n[2]), NONE, KEPT);
        }
        ColourHouse x = new ColourHouse();
        x.cloth();
        x.chip();
        CHECK.same("ahead of a PREDICTION", x.nearest(0, 0, 0), NONE);
        x.predict(1);
        CHECK.same("behind one that was refused", x.nearest(0, 0, 0), NONE);
        x.predict(0);
        CHECK.same("behind one", x.nearest(0, 0, 0), 0);
    }

    static void promise18_fortyChips() {
        CHECK.says("The k-th nearest chip (from 0 on)");
        ColourHouse x = new ColourHouse();
        x.light(0, 0, 1);
        x.eye(0, 1, 0, 1);
        x.bands(0, Bench.bits(1), 0, 0, 0);
        x.cloth();
        x.predict(0);
        for (int i = 0; i < 40; i++) {
            // chip i is the (i * 7 % 40)-th nearest
            x.bands(0, Bench.bits(1 - i * 7 % 40 / 64f), 0, 0, 0);
            x.chip();
        }
        for (int i = 0; i < 40; i++) {
            CHECK.same("nearest(0, 0, " + i * 7 % 40 + ")", x.nearest(0, 0, i * 7 % 40), i);
        }
        CHECK.same("nearest(0, 0, 40)", x.nearest(0, 0, 40), NONE);
    }

    static void promise19_greatest() {
        CHECK.says("The LIGHT (of alike ones the lowest) under which chips a and b have the greatest DISTANCE "
            + "for an EYE");
        for (int greatest = 0; greatest < 6; greatest++) {
            ColourHouse x = new ColourHouse();
            Bench.four(x, 1, 0.25f, 0, 0);
            x.chip();
            Bench.four(x, 0.25f, 0.5f, 0, 0);
            x.chip();
            x.eye(1, 1, 0, 1);
            x.eye(1, 1, 1, 1);
            CHECK.same("all 0", x.parting(0, 1, 1), 0);
            for (int light = 0; light < 6; light++) {
                x.light(light, 1, 1);
            }
            CHECK.same("all alike", x.parting(0, 1, 1), 0);
            x.light(greatest, 0, 100);
            CHECK.same("the greatest", x.parting(0, 1, 1), greatest);
            CHECK.same("the other way round", x.parting(1, 0, 1), greatest);
            x.light(5, 0, 100);
            CHECK.same("the lowest of two alike", x.parting(0, 1, 1), greatest);
            CHECK.same("of one and the same", x.parting(1, 1, 1), 0);
            CHECK.same("for a blind EYE", x.parting(0, 1, 0), 0);
        }
    }

    static void promise19_oneIsNotThere() {
        CHECK.says("NONE if one isn't there, or for another EYE.");
        int[][] none = {{-1, 0, 0}, {4, 0, 0}, {LEAST, 0, 0}, {GREATEST, 0, 0}, {0, -1, 0}, {0, 4, 0}, {0, LEAST, 0},
            {0, GREATEST, 0}, {0, 1, -1}, {0, 1, 2}, {0, 1, LEAST}, {0, 1, GREATEST}};
        for (int[] n : none) {
            TWINS.refusedOnRich("parting(" + n[0] + ", " + n[1] + ", " + n[2] + ")",
                x -> x.parting(n[0], n[1], n[2]), NONE, KEPT);
        }
    }
}
