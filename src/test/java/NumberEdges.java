/** Term I: the numbers, and the bounds. */
final class NumberEdges {
    private static final Check CHECK = EdgeTests.check();
    private static final int[] NOT_TAKEN = {Integer.MIN_VALUE, 0x80000001, 0x40000001, 0x7f800000, 0x7f800001,
        0x7fc00000, Integer.MAX_VALUE, 0xbf800000, 0xc0000000, 0xff800000, -1};

    private NumberEdges() {
    }

    static void term1_bands() {
        CHECK.says("BANDS are 0 .. 15.");
        ColourHouse x = new ColourHouse();
        x.bands(0, 5, 0, 0, 0);
        x.bands(3, 0, 0, 0, 6);
        CHECK.same("band(0, 0, 0)", x.band(0, 0, 0), 5);
        CHECK.same("band(0, 0, 15)", x.band(0, 0, 15), 6);
        int[] none = {-1, 16, Integer.MIN_VALUE, Integer.MAX_VALUE};
        for (int k : none) {
            CHECK.same("band(0, 0, " + k + ")", x.band(0, 0, k), 0);
            CHECK.denied("light(0, " + k + ", 1)", x, x.light(0, k, 1), 3);
            CHECK.denied("eye(0, 0, " + k + ", 1)", x, x.eye(0, 0, k, 1), 3);
        }
        for (int k = 0; k <= 15; k += 15) {
            CHECK.yes("light(0, " + k + ", 1)", x.light(0, k, 1));
            CHECK.yes("eye(0, 0, " + k + ", 1)", x.eye(0, 0, k, 1));
        }
    }

    static void term1_floatsThatAreTaken() {
        CHECK.says("one that is taken is 0 (not -0) to 2");
        ColourHouse x = new ColourHouse();
        int[] taken = {0, 1, 0x007fffff, 0x00800000, 0x3f7fffff, 0x3f800000, 0x3fffffff, 0x40000000};
        for (int bits : taken) {
            CHECK.yes("bands(1, " + bits + " ..)", x.bands(1, bits, bits, bits, bits));
            for (int k = 4; k < 8; k++) {
                CHECK.same("band(0, 0, " + k + ")", x.band(0, 0, k), bits);
            }
        }
        for (int bits : NOT_TAKEN) {
            CHECK.no("bands, the first " + bits, x.bands(1, bits, 0, 0, 0));
            CHECK.no("bands, the second " + bits, x.bands(1, 0, bits, 0, 0));
            CHECK.no("bands, the third " + bits, x.bands(1, 0, 0, bits, 0));
            CHECK.no("bands, the fourth " + bits, x.bands(1, 0, 0, 0, bits));
            CHECK.same("it stays", x.band(0, 0, 4), 0x40000000);
        }
    }

    /** All three axes see band 0 alone, so that COLOURS 1 and 2 are 0 and the DISTANCE is a * u * u. */
    static void term1_fromTheLeft() {
        CHECK.says("each operation rounded by itself, from the left");
        float r = 0.3f;
        double u = 50.0 - 100 * Math.sqrt(r);
        for (int n = 0; n < 1000 && 3 * u * u == 3 * (u * u); n++) {
            r = Math.nextUp(r);
            u = 50.0 - 100 * Math.sqrt(r);
        }
        CHECK.yes("the order tells", 3 * u * u != 3 * (u * u));
        ColourHouse x = new ColourHouse();
        x.light(0, 0, 1);
        for (int axis = 0; axis < 3; axis++) {
            x.eye(0, axis, 0, 1);
        }
        Bench.flatChip(x, 0.25f);
        Bench.flatChip(x, r);
        x.measure(3, 1, 1);
        CHECK.bits("distance", x.distance(0, 1, 0, 0), 3 * u * u);
    }

    static void term1_divisionOfWholeOnes() {
        CHECK.says("/ of whole ones as doubles");
        ColourHouse x = new ColourHouse();
        Bench.flatCloth(x, 0.9f);
        x.dye(0);
        Bench.flatStrength(x, 0, 10, 0.3f);
        x.lot(0, 1, 3, 1);
        x.part(true, 0, 1);
        x.predict(0);
        double cloth = Bench.quotient(0.9f);
        double own = Bench.quotient(0.3f) - cloth;
        CHECK.bits("a third of a gram", x.band(3, 0, 0), Bench.ofQuotient(cloth + own * (1.0 / 3.0 / 10.0)));
        x.part(false, 0, 1);
        x.predict(0);
        CHECK.bits("a tenth of the grams", x.band(3, 0, 0), Bench.ofQuotient(cloth + own * (1.0 / 10.0)));
    }

    static void term1_root() {
        CHECK.says("sqrt is the exact one rounded");
        int[] bits = {0, 1, 2, 3, 0x007fffff, 0x00800000, 0x00800001, 0x34000000, 0x3effffff, 0x3f000000, 0x3f000001,
            0x3f7fffff, 0x3f800000, 0x3f800001, 0x3fffffff, 0x40000000};
        ColourHouse x = new ColourHouse();
        x.light(0, 0, 1);
        x.eye(0, 1, 0, 1);
        for (int b : bits) {
            x.bands(0, b, 0, 0, 0);
            CHECK.bits("the root of " + b, x.colour(0, 0, 0, 0, 0), 100 * Math.sqrt(Float.intBitsToFloat(b)));
        }
        for (int n = 1; n <= 100; n++) {
            float square = n * n / 10000f;
            x.bands(0, Bench.bits(square), 0, 0, 0);
            CHECK.bits("the root of " + square, x.colour(0, 0, 0, 0, 0), 100 * Math.sqrt(square));
        }
    }

    /** Weights with the sum 2 to the 42nd; band 0 has 2 to the 13th of it, so that its last bit is the RATIO's last. */
    static void term1_rootNextToOne() {
        CHECK.says("sqrt is the exact one rounded");
        int[][] weights = {{8192, 1}, {1000000, 1000000}, {1000000, 1000000}, {1000000, 1000000}, {1000000, 1000000},
            {398046, 1000000}, {502912, 1}};
        ColourHouse x = new ColourHouse();
        Bench.flat(x, 1);
        for (int k = 0; k < weights.length; k++) {
            x.light(0, k, weights[k][0]);
            x.eye(0, 1, k, weights[k][1]);
        }
        int one = Bench.bits(1);
        x.bands(0, one + 1, one, one, one);
        CHECK.bits("a bit above 1", x.colour(0, 0, 0, 0, 0), 100 * Math.sqrt(Math.nextUp(1.0)));
        CHECK.bits("its root is 1", x.colour(0, 0, 0, 0, 0), 100.0);
        x.bands(0, one - 1, one, one, one);
        CHECK.bits("a bit below 1", x.colour(0, 0, 0, 0, 0), 100 * Math.sqrt(Math.nextDown(1.0)));
        CHECK.yes("its root isn't 1", x.colour(0, 0, 0, 0, 0) != Double.doubleToRawLongBits(100.0));
    }

    static void term1_fortyChips() {
        CHECK.says("CHIPS 40");
        ColourHouse x = new ColourHouse();
        for (int i = 0; i < 40; i++) {
            CHECK.same("chip()", x.chip(), i);
        }
        CHECK.refused("chip()", x, x.chip(), 1);
        CHECK.same("count(0)", x.count(0), 40);
    }

    static void term1_eightCloths() {
        CHECK.says("CLOTHS 8");
        ColourHouse x = new ColourHouse();
        for (int i = 0; i < 8; i++) {
            CHECK.same("cloth()", x.cloth(), i);
        }
        CHECK.refused("cloth()", x, x.cloth(), 1);
        CHECK.same("count(1)", x.count(1), 8);
    }

    static void term1_twelveDyes() {
        CHECK.says("DYES 12 of 6 STRENGTHS");
        ColourHouse x = new ColourHouse();
        x.cloth();
        for (int i = 0; i < 12; i++) {
            CHECK.same("dye(0)", x.dye(0), i);
        }
        CHECK.refused("dye(0)", x, x.dye(0), 1);
        CHECK.same("count(2)", x.count(2), 12);
        for (int dye = 0; dye < 12; dye++) {
            for (int n = 1; n <= 6; n++) {
                CHECK.same("strength(" + dye + ", " + n + ")", x.strength(dye, n), n);
            }
            CHECK.refused("strength(" + dye + ", 7)", x, x.strength(dye, 7), 1);
        }
    }

    static void term1_lightsAndEyes() {
        CHECK.says("LIGHTS 6, two EYES (0, 1) with axes 0, 1, 2");
        ColourHouse x = new ColourHouse();
        int[] lights = {-1, 6, Integer.MIN_VALUE, Integer.MAX_VALUE};
        int[] eyes = {-1, 2, Integer.MIN_VALUE, Integer.MAX_VALUE};
        int[] axes = {-1, 3, Integer.MIN_VALUE, Integer.MAX_VALUE};
        for (int n = 0; n < 4; n++) {
            CHECK.denied("light(" + lights[n] + ", 0, 1)", x, x.light(lights[n], 0, 1), 3);
            CHECK.denied("eye(" + eyes[n] + ", 0, 0, 1)", x, x.eye(eyes[n], 0, 0, 1), 3);
            CHECK.denied("eye(0, " + axes[n] + ", 0, 1)", x, x.eye(0, axes[n], 0, 1), 3);
        }
        for (int light = 0; light < 6; light++) {
            CHECK.yes("light(" + light + ", 0, 1)", x.light(light, 0, 1));
        }
        for (int eye = 0; eye < 2; eye++) {
            for (int axis = 0; axis < 3; axis++) {
                CHECK.yes("eye(" + eye + ", " + axis + ", 0, 1)", x.eye(eye, axis, 0, 1));
            }
        }
    }

    static void term1_twelveSolids() {
        CHECK.says("SOLIDS 12");
        ColourHouse x = new ColourHouse();
        x.chip();
        for (int i = 0; i < 12; i++) {
            CHECK.same("solid", x.solid(0, 0, 0, 0, 1, 1, 1), i);
        }
        CHECK.refused("solid", x, x.solid(0, 0, 0, 0, 1, 1, 1), 1);
        CHECK.same("count(3)", x.count(3), 12);
    }

    static void term1_twentyLots() {
        CHECK.says("LOTS 20");
        ColourHouse x = new ColourHouse();
        x.cloth();
        x.dye(0);
        for (int i = 0; i < 20; i++) {
            CHECK.same("lot", x.lot(0, 1, 1, 1), i);
        }
        CHECK.refused("lot", x, x.lot(0, 1, 1, 1), 1);
        CHECK.same("count(4)", x.count(4), 20);
    }

    static void term1_twelveBatches() {
        CHECK.says("BATCHES 12 of 8 WEIGHINGS each");
        ColourHouse x = new ColourHouse();
        x.cloth();
        x.dye(0);
        for (int i = 0; i < 9; i++) {
            x.lot(0, 1, 1, 1000000);
        }
        for (int i = 0; i < 12; i++) {
            CHECK.same("batch", x.batch(0, 1), i);
        }
        CHECK.refused("batch", x, x.batch(0, 1), 1);
        CHECK.same("count(5)", x.count(5), 12);
        for (int batch = 0; batch < 12; batch++) {
            for (int lot = 0; lot < 8; lot++) {
                CHECK.same("weigh(" + batch + ", " + lot + ", 3)", x.weigh(batch, lot, 3), 3);
            }
            CHECK.refused("weigh(" + batch + ", 8, 3)", x, x.weigh(batch, 8, 3), 1);
            CHECK.same("told(" + batch + ", 6)", x.told(batch, 6), 8);
        }
    }

    static void term1_sixParts() {
        CHECK.says("PARTS 6");
        ColourHouse x = new ColourHouse();
        x.cloth();
        x.dye(0);
        for (int n = 1; n <= 6; n++) {
            CHECK.same("part", x.part(false, 0, n), n);
        }
        CHECK.refused("part", x, x.part(false, 0, 7), 1);
        CHECK.same("count(6)", x.count(6), 6);
    }

    static void term1_sixtyActs() {
        CHECK.says("the latest 60 acts can be taken back");
        for (int acts = 59; acts <= 61; acts++) {
            ColourHouse x = new ColourHouse();
            x.cloth();
            x.dye(0);
            for (int c = 3; c <= acts; c++) {
                x.cents(0, c);
            }
            int due = Math.min(acts, 60);
            CHECK.same("count(7) after " + acts, x.count(7), due);
            for (int n = 0; n < due; n++) {
                CHECK.same("undo() after " + acts, x.undo(), 1);
            }
            CHECK.same("one undo() more after " + acts, x.undo(), 0);
            CHECK.same("the cloth after " + acts, x.count(1), acts - due);
            CHECK.same("the dye after " + acts, x.count(2), 0);
        }
    }
}
