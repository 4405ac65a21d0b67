/** Promises 20 and 21, and the SOLIDS of term III. */
final class SolidEdges {
    private static final Check CHECK = EdgeTests.check();
    private static final Twins TWINS = new Twins(CHECK);
    private static final int NONE = ColourHouse.NONE;
    private static final int KEPT = Twins.KEPT;
    private static final int LEAST = Integer.MIN_VALUE;
    private static final int GREATEST = Integer.MAX_VALUE;
    private static final int OUTSIDE = 0;
    private static final int INSIDE = 1;
    private static final int BORDER = 2;

    private SolidEdges() {
    }

    /**
     * By plainSight: COLOUR 0 is 100 * root of a, 1 is 250 * (root of b - root of a), 2 is 100 * (root of a - root of
     * c). Chip 0 has the COLOUR 50, 0, 0.
     */
    private static ColourHouse bench() {
        ColourHouse x = new ColourHouse();
        Bench.plainSight(x);
        chipOf(x, 0.25f, 0.25f, 0.25f);
        return x;
    }

    private static int chipOf(ColourHouse x, float a, float b, float c) {
        Bench.four(x, a, b, c, 0);
        return x.chip();
    }

    private static void side(ColourHouse x, String what, float a, float b, float c, int due) {
        CHECK.same(what, x.inside(0, chipOf(x, a, b, c)), due);
    }

    private static float more(float f) {
        return Math.nextUp(f);
    }

    private static float less(float f) {
        return Math.nextDown(f);
    }

    static void term3_sizes() {
        CHECK.says("with three whole sizes 1 .. 1,000 in tenths (as doubles / 10.0): x, y, z.");
        ColourHouse x = bench();
        int[] wrong = {0, 1001};
        for (int w : wrong) {
            CHECK.refused("solid of x " + w, x, x.solid(0, 0, 0, 0, w, 1, 1), 3);
            CHECK.refused("solid of y " + w, x, x.solid(0, 0, 0, 0, 1, w, 1), 3);
            CHECK.refused("solid of z " + w, x, x.solid(0, 0, 0, 0, 1, 1, w), 3);
        }
        CHECK.same("solid of 1 1 1", x.solid(0, 0, 0, 0, 1, 1, 1), 0);
        CHECK.same("solid of 1000 1000 1000", x.solid(0, 0, 0, 0, 1000, 1000, 1000), 1);
        // 100 * root of r is just 0.1 more than 50 at no float; these two are the ones about it
        float edge = 0.25100100f;
        while (100 * Math.sqrt(edge) - 50.0 > 1 / 10.0) {
            edge = less(edge);
        }
        while (100 * Math.sqrt(more(edge)) - 50.0 <= 1 / 10.0) {
            edge = more(edge);
        }
        CHECK.same("within a tenth", x.inside(0, chipOf(x, edge, edge, edge)), INSIDE);
        CHECK.same("beyond a tenth", x.inside(0, chipOf(x, more(edge), more(edge), more(edge))), OUTSIDE);
        CHECK.same("less than a hundred in y", x.inside(1, chipOf(x, 0.25f, 0.8099f, 0.25f)), INSIDE);
        CHECK.same("more than a hundred in y", x.inside(1, chipOf(x, 0.25f, 0.8101f, 0.25f)), OUTSIDE);
    }

    static void term3_box() {
        CHECK.says("BOX: outside if one of them is above its size or below less than it, on the border if none is, "
            + "but one is just that");
        ColourHouse x = bench();
        x.solid(0, 0, 0, 0, 250, 1000, 1000);
        side(x, "its own chip", 0.25f, 0.25f, 0.25f, INSIDE);
        side(x, "x, just its size", 0.5625f, 0.5625f, 0.5625f, BORDER);
        side(x, "x, a bit less", less(0.5625f), 0.5625f, 0.5625f, INSIDE);
        side(x, "x, a bit more", more(0.5625f), 0.5625f, 0.5625f, OUTSIDE);
        side(x, "x below, just its size", 0.0625f, 0.0625f, 0.0625f, BORDER);
        side(x, "x below, a bit less", more(0.0625f), 0.0625f, 0.0625f, INSIDE);
        side(x, "x below, a bit more", less(0.0625f), 0.0625f, 0.0625f, OUTSIDE);
    }

    static void term3_boxInY() {
        CHECK.says("BOX: outside if one of them is above its size or below less than it");
        ColourHouse x = bench();
        x.solid(0, 0, 0, 0, 1000, 625, 1000);
        side(x, "y, just its size", 0.25f, 0.5625f, 0.25f, BORDER);
        side(x, "y, a bit less", 0.25f, less(0.5625f), 0.25f, INSIDE);
        side(x, "y, a bit more", 0.25f, more(0.5625f), 0.25f, OUTSIDE);
        side(x, "y below, just its size", 0.25f, 0.0625f, 0.25f, BORDER);
        side(x, "y below, a bit less", 0.25f, more(0.0625f), 0.25f, INSIDE);
        side(x, "y below, a bit more", 0.25f, less(0.0625f), 0.25f, OUTSIDE);
    }

    static void term3_boxInZ() {
        CHECK.says("below less than it");
        ColourHouse x = bench();
        x.solid(0, 0, 0, 0, 1000, 1000, 250);
        side(x, "z, just its size", 0.25f, 0.25f, 0.0625f, BORDER);
        side(x, "z, a bit less", 0.25f, 0.25f, more(0.0625f), INSIDE);
        side(x, "z, a bit more", 0.25f, 0.25f, less(0.0625f), OUTSIDE);
        side(x, "z below, just its size", 0.25f, 0.25f, 0.5625f, BORDER);
        side(x, "z below, a bit less", 0.25f, 0.25f, less(0.5625f), INSIDE);
        side(x, "z below, a bit more", 0.25f, 0.25f, more(0.5625f), OUTSIDE);
    }

    static void term3_borderIfNoneIsOutside() {
        CHECK.says("on the border if none is, but one is just that");
        ColourHouse x = bench();
        x.solid(0, 0, 0, 0, 250, 625, 250);
        side(x, "x on the border, y and z inside", 0.5625f, 0.5f, 0.5f, BORDER);
        side(x, "all on the border", 0.5625f, 1, 0.25f, BORDER);
        side(x, "x on the border, y outside", 0.5625f, more(1f), 0.5625f, OUTSIDE);
        side(x, "x on the border, z outside", 0.5625f, 0.5625f, 0.24f, OUTSIDE);
        side(x, "x and z outside, y on the border", 0.64f, more(1f), 0.2f, OUTSIDE);
        side(x, "z on the border, x outside", 0.0624f, 0.0624f, 0.0625f, OUTSIDE);
        side(x, "z on the border, y inside", 0.25f, 0.5f, 0.5625f, BORDER);
    }

    static void term3_ellipsoid() {
        CHECK.says("u * u / (x * x) + v * v / (y * y) + w * w / (z * z): below 1 inside, 1 the border.");
        ColourHouse x = bench();
        x.solid(1, 0, 0, 0, 250, 625, 250);
        side(x, "its own chip", 0.25f, 0.25f, 0.25f, INSIDE);
        side(x, "x, just 1", 0.5625f, 0.5625f, 0.5625f, BORDER);
        side(x, "x, below 1", less(0.5625f), less(0.5625f), less(0.5625f), INSIDE);
        side(x, "x, above 1", more(0.5625f), more(0.5625f), more(0.5625f), OUTSIDE);
        side(x, "x below, just 1", 0.0625f, 0.0625f, 0.0625f, BORDER);
        side(x, "x below, above 1", less(0.0625f), less(0.0625f), less(0.0625f), OUTSIDE);
        side(x, "y, just 1", 0.25f, 0.5625f, 0.25f, BORDER);
        side(x, "y, below 1", 0.25f, less(0.5625f), 0.25f, INSIDE);
        side(x, "y, above 1", 0.25f, more(0.5625f), 0.25f, OUTSIDE);
        side(x, "z, just 1", 0.25f, 0.25f, 0.0625f, BORDER);
        side(x, "z, below 1", 0.25f, 0.25f, more(0.0625f), INSIDE);
        side(x, "z, above 1", 0.25f, 0.25f, less(0.0625f), OUTSIDE);
        side(x, "in a corner of the box", 0.5f, 0.4f, 0.3f, OUTSIDE);
    }

    /** 37.5 by 62.5 and 50 by 62.5 are 0.6 and 0.8: the squares' sum is just 1. */
    static void term3_ellipsoidOfTwo() {
        CHECK.says("1 the border.");
        ColourHouse x = bench();
        x.solid(1, 0, 0, 0, 625, 1000, 625);
        float far = 0.765625f;
        side(x, "two that make just 1", far, far, 0.140625f, BORDER);
        side(x, "a bit less", far, far, more(0.140625f), INSIDE);
        side(x, "a bit more", far, far, less(0.140625f), OUTSIDE);
    }

    static void promise20_itsNumber() {
        CHECK.says("A new SOLID about a chip under a LIGHT for an EYE (its COLOUR as it is now): its number");
        ColourHouse x = bench();
        CHECK.same("solid", x.solid(0, 0, 0, 0, 250, 1, 1), 0);
        Bench.four(x, 1, 1, 1, 0);
        x.remeasure(0);
        CHECK.same("its chip has gone out of it", x.inside(0, 0), OUTSIDE);
        CHECK.same("solid", x.solid(0, 0, 0, 0, 250, 1, 1), 1);
        CHECK.same("of its COLOUR as it is then", x.inside(1, 0), INSIDE);
        side(x, "the first is where it was", 0.5625f, 0.5625f, 0.5625f, BORDER);
        x.light(5, 0, 1);
        x.eye(1, 1, 0, 1);
        CHECK.same("under another light, for another eye", x.solid(1, 0, 5, 1, 1, 1000, 1000), 2);
        CHECK.same("its own chip", x.inside(2, 0), INSIDE);
        CHECK.same("another chip", x.inside(2, 1), OUTSIDE);
        x.light(5, 0, 0);
        CHECK.same("a weight was changed since", x.inside(2, 0), OUTSIDE);
    }

    static void promise20_noSuchChip() {
        CHECK.says("NONE, trouble 2 if there is no such chip");
        int[] none = {-1, 4, 40, LEAST, GREATEST};
        for (int c : none) {
            TWINS.refusedOnRich("solid(0, " + c + ", ..)", x -> x.solid(0, c, 0, 0, 1, 1, 1), NONE, 2);
            TWINS.refusedOnRich("solid(2, " + c + ", ..)", x -> x.solid(2, c, 9, 9, 0, 0, 0), NONE, 2);
        }
        ColourHouse empty = new ColourHouse();
        CHECK.refused("without chips", empty, empty.solid(0, 0, 0, 0, 1, 1, 1), 2);
    }

    private static void fillSolids(ColourHouse x) {
        for (int i = x.count(3); i < 12; i++) {
            x.solid(0, 0, 0, 0, 5, 5, 5);
        }
    }

    static void promise20_otherNumbers() {
        CHECK.says("else 3 for another sort, size, LIGHT, EYE");
        int[][] wrong = {{-1, 0, 0, 1, 1, 1}, {2, 0, 0, 1, 1, 1}, {LEAST, 0, 0, 1, 1, 1}, {GREATEST, 0, 0, 1, 1, 1},
            {0, -1, 0, 1, 1, 1}, {0, 6, 0, 1, 1, 1}, {0, LEAST, 0, 1, 1, 1}, {0, GREATEST, 0, 1, 1, 1},
            {0, 0, -1, 1, 1, 1}, {0, 0, 2, 1, 1, 1}, {0, 0, LEAST, 1, 1, 1}, {0, 0, GREATEST, 1, 1, 1},
            {1, 0, 0, 0, 1, 1}, {1, 0, 0, 1001, 1, 1}, {1, 0, 0, -1, 1, 1}, {1, 0, 0, 1, 0, 1}, {1, 0, 0, 1, 1001, 1},
            {1, 0, 0, 1, LEAST, 1}, {1, 0, 0, 1, 1, 0}, {1, 0, 0, 1, 1, 1001}, {1, 0, 0, 1, 1, GREATEST}};
        for (int[] w : wrong) {
            String call = "solid(" + w[0] + ", 1, " + w[1] + ", " + w[2] + ", " + w[3] + ", " + w[4] + ", " + w[5] + ")";
            TWINS.refusedOnRich(call, x -> x.solid(w[0], 1, w[1], w[2], w[3], w[4], w[5]), NONE, 3);
        }
        TWINS.refusedOnRich(SolidEdges::fillSolids, "another sort with twelve", x -> x.solid(2, 0, 0, 0, 1, 1, 1), NONE,
            3);
    }

    static void promise20_ifThereAreTwelve() {
        CHECK.says("else 1 if there are 12.");
        ColourHouse x = bench();
        for (int i = 0; i < 11; i++) {
            x.solid(0, 0, 0, 0, 1, 1, 1);
        }
        CHECK.same("the twelfth", x.solid(1, 0, 5, 1, 1000, 1000, 1000), 11);
        CHECK.same("its trouble()", x.trouble(), 0);
        CHECK.refused("the thirteenth", x, x.solid(0, 0, 0, 0, 1, 1, 1), 1);
        x.undo();
        CHECK.same("the twelfth again", x.solid(0, 0, 0, 0, 1, 1, 1), 11);
        TWINS.refusedOnRich(SolidEdges::fillSolids, "solid", y -> y.solid(1, 0, 0, 0, 1, 1, 1), NONE, 1);
        TWINS.refusedOnRich(SolidEdges::fillSolids, "solid of no chip", y -> y.solid(1, 4, 0, 0, 1, 1, 1), NONE, 2);
    }

    static void promise21_whereAChipIs() {
        CHECK.says("0 outside, 1 inside, 2 on the border");
        ColourHouse x = bench();
        x.solid(0, 0, 0, 0, 250, 1, 1);
        x.solid(1, 0, 0, 0, 250, 1, 1);
        chipOf(x, 0.5625f, 0.5625f, 0.5625f);
        chipOf(x, 0.5626f, 0.5626f, 0.5626f);
        for (int solid = 0; solid < 2; solid++) {
            CHECK.same("inside", x.inside(solid, 0), INSIDE);
            CHECK.same("on the border", x.inside(solid, 1), BORDER);
            CHECK.same("outside", x.inside(solid, 2), OUTSIDE);
        }
    }

    /** Chip 1 is chip 0 but for band 3, which light 4 alone shows to eye 1 alone. */
    static void promise21_itsLightAndEye() {
        CHECK.says("Whether a chip (under the SOLID's LIGHT for its EYE) is in a SOLID");
        ColourHouse x = bench();
        Bench.four(x, 0.25f, 0.25f, 0.25f, 1);
        x.chip();
        for (int band = 0; band < 4; band++) {
            x.light(4, band, 1);
            x.eye(1, 1, band, 1);
        }
        x.light(0, 3, 0);
        for (int light = 0; light < 5; light += 4) {
            for (int eye = 0; eye < 2; eye++) {
                int solid = x.solid(0, 0, light, eye, 10, 1000, 1000);
                CHECK.same("its own chip", x.inside(solid, 0), INSIDE);
                CHECK.same("the other under " + light + " for " + eye, x.inside(solid, 1),
                    light == 4 && eye == 1 ? OUTSIDE : INSIDE);
            }
        }
    }

    static void promise21_oneIsNotThere() {
        CHECK.says("NONE if one isn't there.");
        int[][] none = {{-1, 0}, {2, 0}, {12, 0}, {LEAST, 0}, {GREATEST, 0}, {0, -1}, {0, 4}, {0, 40}, {0, LEAST},
            {0, GREATEST}, {2, 4}};
        for (int[] n : none) {
            TWINS.refusedOnRich("inside(" + n[0] + ", " + n[1] + ")", x -> x.inside(n[0], n[1]), NONE, KEPT);
        }
        ColourHouse x = bench();
        CHECK.same("ahead of solids", x.inside(0, 0), NONE);
        x.solid(0, 0, 0, 0, 1, 1, 1);
        CHECK.same("behind one", x.inside(0, 0), INSIDE);
        x.undo();
        CHECK.same("when it was taken back", x.inside(0, 0), NONE);
    }
}
