/** Promises 13 to 21. */
final class ColourTests {
    private static final Check CHECK = new Check();

    public static void main(String[] args) {
        light();
        eye();
        measure();
        colour();
        colourOfWeights();
        roots();
        distance();
        nearest();
        parting();
        solid();
        boxes();
        ellipsoids();
        solidStaysAsItWas();
        CHECK.end("ColourTests");
    }

    private static void light() {
        CHECK.promise("13 light");
        ColourHouse x = new ColourHouse();
        int[][] wrong = {{-1, 0, 1}, {6, 0, 1}, {0, -1, 1}, {0, 16, 1}, {0, 0, -1}, {0, 0, 1000001},
            {Integer.MIN_VALUE, 0, 0}, {0, Integer.MAX_VALUE, 0}};
        for (int[] w : wrong) {
            CHECK.denied("light", x, x.light(w[0], w[1], w[2]), 3);
        }
        CHECK.yes("light(5, 15, 1000000)", x.light(5, 15, 1000000));
        CHECK.same("trouble()", x.trouble(), 0);
        CHECK.yes("light(0, 0, 0)", x.light(0, 0, 0));
        CHECK.same("no act", x.count(7), 0);
        x.eye(0, 1, 15, 3);
        Bench.flat(x, 0.25f);
        CHECK.bits("it weighs", x.colour(0, 0, 5, 0, 0), 50.0);
        x.light(5, 15, 0);
        CHECK.bits("it becomes 0", x.colour(0, 0, 5, 0, 0), 0.0);
    }

    private static void eye() {
        CHECK.promise("14 eye");
        ColourHouse x = new ColourHouse();
        int[][] wrong = {{-1, 0, 0, 1}, {2, 0, 0, 1}, {0, -1, 0, 1}, {0, 3, 0, 1}, {0, 0, -1, 1}, {0, 0, 16, 1},
            {0, 0, 0, -1}, {0, 0, 0, 1000001}, {1, 5, 0, 1}};
        for (int[] w : wrong) {
            CHECK.denied("eye", x, x.eye(w[0], w[1], w[2], w[3]), 3);
        }
        CHECK.yes("eye(1, 1, 15, 1000000)", x.eye(1, 1, 15, 1000000));
        CHECK.same("trouble()", x.trouble(), 0);
        CHECK.same("no act", x.count(7), 0);
        x.light(0, 15, 1000000);
        Bench.flat(x, 0.25f);
        CHECK.bits("eye 1 sees", x.colour(0, 0, 0, 1, 0), 50.0);
        CHECK.bits("eye 0 doesn't", x.colour(0, 0, 0, 0, 0), 0.0);
    }

    private static void measure() {
        CHECK.promise("15 measure");
        ColourHouse x = new ColourHouse();
        int[][] wrong = {{0, 1, 1}, {1, 0, 1}, {1, 1, 0}, {101, 1, 1}, {1, 101, 1}, {1, 1, 101}, {-1, 1, 1}};
        for (int[] w : wrong) {
            CHECK.denied("measure", x, x.measure(w[0], w[1], w[2]), 3);
        }
        CHECK.yes("measure(1, 1, 1)", x.measure(1, 1, 1));
        CHECK.yes("measure(100, 100, 100)", x.measure(100, 100, 100));
        CHECK.same("trouble()", x.trouble(), 0);
        CHECK.same("no act", x.count(7), 0);
    }

    private static void colour() {
        CHECK.promise("16 colour");
        ColourHouse x = new ColourHouse();
        Bench.plainSight(x);
        Bench.four(x, 0.25f, 1, 0.0625f, 0);
        CHECK.bits("colour 0", x.colour(0, 3, 0, 0, 0), 50.0);
        CHECK.bits("colour 1", x.colour(0, 3, 0, 0, 1), 125.0);
        CHECK.bits("colour 2", x.colour(0, 3, 0, 0, 2), 25.0);
        x.chip();
        x.cloth();
        x.batch(0, 1);
        x.measured(0);
        Bench.four(x, 1, 0.25f, 2, 0);
        CHECK.bits("of the row, below 0", x.colour(0, 0, 0, 0, 1), -125.0);
        CHECK.bits("of the row", x.colour(0, 0, 0, 0, 2), 100 * (1 - Math.sqrt(2)));
        CHECK.bits("of a chip", x.colour(1, 0, 0, 0, 1), 125.0);
        CHECK.bits("of a cloth", x.colour(2, 0, 0, 0, 1), 125.0);
        CHECK.bits("of a batch", x.colour(5, 0, 0, 0, 1), 125.0);
        CHECK.same("no prediction", x.colour(3, 0, 0, 0, 0), 0);
        x.predict(0);
        CHECK.bits("of the prediction", x.colour(3, 7, 0, 0, 0), 50.0);
        int[][] none = {{0, 0, -1, 0, 0}, {0, 0, 6, 0, 0}, {0, 0, 0, -1, 0}, {0, 0, 0, 2, 0}, {0, 0, 0, 0, -1},
            {0, 0, 0, 0, 3}, {1, 1, 0, 0, 0}, {1, -1, 0, 0, 0}, {2, 1, 0, 0, 0}, {4, 0, 0, 0, 0}, {5, 1, 0, 0, 0},
            {6, 0, 0, 0, 0}, {-1, 0, 0, 0, 0}};
        for (int[] n : none) {
            CHECK.same("none such", x.colour(n[0], n[1], n[2], n[3], n[4]), 0);
        }
        CHECK.bits("no weights, no colour", x.colour(0, 0, 1, 0, 0), 0.0);
        CHECK.bits("a blind eye", x.colour(0, 0, 0, 1, 1), 0.0);
    }

    private static void colourOfWeights() {
        ColourHouse x = new ColourHouse();
        float[] r = {0.1f, 0.7f, 0.33f, 1.9f};
        int[] lights = {999983, 3, 1000000, 77};
        int[] eyes = {1000000, 999979, 13, 500};
        Bench.four(x, r[0], r[1], r[2], r[3]);
        double sum = 0.0;
        long all = 0;
        for (int k = 0; k < 4; k++) {
            x.light(3, k, lights[k]);
            x.eye(1, 1, k, eyes[k]);
            long w = (long) lights[k] * eyes[k];
            sum += r[k] * (double) w;
            all += w;
        }
        CHECK.bits("weights as longs", x.colour(0, 0, 3, 1, 0), 100 * Math.sqrt(sum / (double) all));
    }

    private static void roots() {
        ColourHouse x = new ColourHouse();
        x.light(0, 0, 1);
        x.eye(0, 1, 0, 1);
        int bits = 1;
        for (int n = 0; n < 480; n++) {
            x.bands(0, bits, 0, 0, 0);
            CHECK.bits("the root of " + bits, x.colour(0, 0, 0, 0, 0), 100 * Math.sqrt(Float.intBitsToFloat(bits)));
            bits = (int) ((bits * 48271L + n) % 0x40000001L);
            if (n == 240) {
                x = new ColourHouse();
                x.light(0, 0, 1);
                x.eye(0, 1, 0, 1);
            }
        }
    }

    private static void distance() {
        CHECK.promise("17 distance");
        ColourHouse x = new ColourHouse();
        Bench.plainSight(x);
        Bench.four(x, 0.25f, 1, 0.0625f, 0);
        x.chip();
        Bench.four(x, 1, 0.25f, 0.25f, 0);
        x.chip();
        double u = 50.0 - 100.0;
        double v = 125.0 - -125.0;
        double w = 25.0 - 50.0;
        CHECK.bits("1 1 1 at first", x.distance(0, 1, 0, 0), u * u + v * v + w * w);
        CHECK.bits("the other way round", x.distance(1, 0, 0, 0), u * u + v * v + w * w);
        CHECK.bits("of one", x.distance(1, 1, 0, 0), 0.0);
        x.measure(2, 3, 100);
        CHECK.bits("by the measure", x.distance(0, 1, 0, 0), 2 * u * u + 3 * v * v + 100 * w * w);
        x.measure(2, 3, 101);
        CHECK.bits("which stays", x.distance(0, 1, 0, 0), 2 * u * u + 3 * v * v + 100 * w * w);
        int[][] none = {{2, 0, 0, 0}, {0, 2, 0, 0}, {-1, 0, 0, 0}, {0, -1, 0, 0}, {0, 1, 6, 0}, {0, 1, -1, 0},
            {0, 1, 0, 2}, {0, 1, 0, -1}};
        for (int[] n : none) {
            CHECK.same("none", x.distance(n[0], n[1], n[2], n[3]), -1L);
        }
    }

    private static void nearest() {
        CHECK.promise("18 nearest");
        ColourHouse x = new ColourHouse();
        Bench.plainSight(x);
        float[] rows = {1, 0.25f, 0.5625f, 0.25f, 0.0625f};
        for (float r : rows) {
            Bench.flatChip(x, r);
        }
        CHECK.same("without a prediction", x.nearest(0, 0, 0), -1);
        Bench.flatCloth(x, 0.25f);
        x.predict(0);
        int[] due = {1, 3, 2, 4, 0};
        for (int k = 0; k < due.length; k++) {
            CHECK.same("nearest " + k, x.nearest(0, 0, k), due[k]);
        }
        int[][] none = {{0, 0, 5}, {0, 0, -1}, {6, 0, 0}, {-1, 0, 0}, {0, 2, 0}, {0, -1, 0},
            {0, 0, Integer.MAX_VALUE}};
        for (int[] n : none) {
            CHECK.same("none", x.nearest(n[0], n[1], n[2]), -1);
        }
        for (int k = 0; k < 5; k++) {
            CHECK.same("all alike in the dark", x.nearest(1, 0, k), k);
        }
        ColourHouse empty = new ColourHouse();
        empty.cloth();
        empty.predict(0);
        CHECK.same("without chips", empty.nearest(0, 0, 0), -1);
    }

    private static void parting() {
        CHECK.promise("19 parting");
        ColourHouse x = new ColourHouse();
        Bench.four(x, 1, 0.25f, 0.5f, 1);
        x.chip();
        Bench.four(x, 1, 1, 0.25f, 1);
        x.chip();
        x.eye(1, 1, 0, 1);
        x.eye(1, 1, 1, 1);
        x.eye(1, 1, 2, 1);
        CHECK.same("all alike", x.parting(0, 1, 1), 0);
        x.light(0, 0, 1);
        x.light(2, 2, 1);
        x.light(3, 1, 1);
        x.light(5, 1, 9);
        CHECK.same("the greatest, the lowest of those alike", x.parting(0, 1, 1), 3);
        x.light(1, 1, 2);
        CHECK.same("the second light", x.parting(0, 1, 1), 1);
        x.light(0, 0, 0);
        x.light(0, 1, 3);
        CHECK.same("the first light", x.parting(0, 1, 1), 0);
        CHECK.same("a blind eye", x.parting(0, 1, 0), 0);
        CHECK.same("of one", x.parting(1, 1, 1), 0);
        int[][] none = {{2, 0, 0}, {0, 2, 0}, {-1, 0, 0}, {0, -1, 0}, {0, 1, 2}, {0, 1, -1}};
        for (int[] n : none) {
            CHECK.same("none", x.parting(n[0], n[1], n[2]), -1);
        }
    }

    private static void solid() {
        CHECK.promise("20 solid");
        ColourHouse x = new ColourHouse();
        CHECK.refused("no such chip", x, x.solid(2, 0, 0, 0, 1, 1, 1), 2);
        x.chip();
        CHECK.refused("no such chip", x, x.solid(0, 1, 0, 0, 1, 1, 1), 2);
        CHECK.refused("no such chip", x, x.solid(0, -1, 0, 0, 1, 1, 1), 2);
        int[][] wrong = {{-1, 0, 0, 1, 1, 1}, {2, 0, 0, 1, 1, 1}, {0, -1, 0, 1, 1, 1}, {0, 6, 0, 1, 1, 1},
            {0, 0, -1, 1, 1, 1}, {0, 0, 2, 1, 1, 1}, {0, 0, 0, 0, 1, 1}, {0, 0, 0, 1001, 1, 1}, {0, 0, 0, 1, 0, 1},
            {0, 0, 0, 1, 1001, 1}, {0, 0, 0, 1, 1, 0}, {0, 0, 0, 1, 1, 1001}};
        for (int[] w : wrong) {
            CHECK.refused("solid", x, x.solid(w[0], 0, w[1], w[2], w[3], w[4], w[5]), 3);
        }
        for (int i = 0; i < 12; i++) {
            CHECK.same("solid", x.solid(i % 2, 0, 5, 1, 1000, 1, 1000), i);
            CHECK.same("trouble()", x.trouble(), 0);
        }
        CHECK.refused("no room", x, x.solid(0, 0, 0, 0, 1, 1, 1), 1);
        CHECK.refused("no room, a number", x, x.solid(0, 0, 0, 0, 1, 1, 0), 3);
        CHECK.same("count(3)", x.count(3), 12);
        x.undo();
        CHECK.same("the number is free again", x.solid(0, 0, 0, 0, 1, 1, 1), 11);
    }

    /** A chip with colours 100 * root of a, 250 * (root of b - that of a), 100 * (that of a - that of c). */
    private static int chipOf(ColourHouse x, float a, float b, float c) {
        Bench.four(x, a, b, c, 0);
        return x.chip();
    }

    private static void boxes() {
        CHECK.promise("21 inside");
        ColourHouse x = new ColourHouse();
        Bench.plainSight(x);
        chipOf(x, 0.25f, 0.25f, 0.25f);
        x.solid(0, 0, 0, 0, 250, 1000, 500);
        CHECK.same("its own chip", x.inside(0, 0), 1);
        CHECK.same("border above in x", x.inside(0, chipOf(x, 0.5625f, 0.5625f, 0.5625f)), 2);
        CHECK.same("border below in x", x.inside(0, chipOf(x, 0.0625f, 0.0625f, 0.0625f)), 2);
        CHECK.same("outside above in x", x.inside(0, chipOf(x, 0.5626f, 0.5626f, 0.5626f)), 0);
        CHECK.same("outside below in x", x.inside(0, chipOf(x, 0.0624f, 0.0624f, 0.0624f)), 0);
        CHECK.same("inside in z", x.inside(0, chipOf(x, 0.25f, 0.25f, 0.001f)), 1);
        CHECK.same("border above in z", x.inside(0, chipOf(x, 0.25f, 0.25f, 0)), 2);
        CHECK.same("border below in z", x.inside(0, chipOf(x, 0.25f, 0.25f, 1)), 2);
        CHECK.same("outside in y", x.inside(0, chipOf(x, 0.25f, 1, 0.25f)), 0);
        CHECK.same("border in x, outside in y", x.inside(0, chipOf(x, 0.5625f, 0.01f, 0.5625f)), 0);
        CHECK.same("two borders", x.inside(0, chipOf(x, 0.5625f, 0.5625f, 0.0625f)), 2);
        CHECK.same("no such chip", x.inside(0, x.count(0)), -1);
        CHECK.same("no such chip", x.inside(0, -1), -1);
        CHECK.same("no such solid", x.inside(1, 0), -1);
        CHECK.same("no such solid", x.inside(-1, 0), -1);
        x.solid(0, 0, 0, 0, 1000, 625, 1000);
        CHECK.same("border above in y", x.inside(1, chipOf(x, 0.25f, 0.5625f, 0.25f)), 2);
        CHECK.same("border below in y", x.inside(1, chipOf(x, 0.25f, 0.0625f, 0.25f)), 2);
    }

    private static void ellipsoids() {
        ColourHouse x = new ColourHouse();
        Bench.plainSight(x);
        chipOf(x, 0.25f, 0.25f, 0.25f);
        x.solid(1, 0, 0, 0, 250, 625, 250);
        CHECK.same("its own chip", x.inside(0, 0), 1);
        CHECK.same("the border in x", x.inside(0, chipOf(x, 0.5625f, 0.5625f, 0.5625f)), 2);
        CHECK.same("the border in y", x.inside(0, chipOf(x, 0.25f, 0.5625f, 0.25f)), 2);
        CHECK.same("the border below in z", x.inside(0, chipOf(x, 0.25f, 0.25f, 0.5625f)), 2);
        CHECK.same("a bit less", x.inside(0, chipOf(x, 0.25f, 0.25f, 0.562f)), 1);
        CHECK.same("a bit more", x.inside(0, chipOf(x, 0.25f, 0.25f, 0.563f)), 0);
        CHECK.same("in the box, not in this", x.inside(0, chipOf(x, 0.5f, 0.5f, 0.25f)), 0);
    }

    private static void solidStaysAsItWas() {
        ColourHouse x = new ColourHouse();
        Bench.plainSight(x);
        chipOf(x, 0.25f, 0.25f, 0.25f);
        x.solid(0, 0, 0, 0, 100, 100, 100);
        Bench.four(x, 1, 1, 1, 0);
        x.remeasure(0);
        CHECK.same("its chip has moved out of it", x.inside(0, 0), 0);
        CHECK.same("one where it was", x.inside(0, chipOf(x, 0.25f, 0.25f, 0.25f)), 1);
        x.light(0, 0, 0);
        x.light(0, 1, 0);
        x.light(0, 2, 0);
        CHECK.same("under its light as it is now", x.inside(0, 1), 0);
        x.eye(1, 1, 0, 1);
        x.light(4, 0, 1);
        x.solid(0, 0, 4, 1, 100, 1000, 1000);
        CHECK.same("under its own light, for its own eye", x.inside(1, 1), 0);
        CHECK.same("its own chip", x.inside(1, 0), 1);
        x.light(0, 0, 1);
        x.eye(1, 1, 0, 0);
        CHECK.same("not for another eye", x.inside(1, 0), 0);
    }
}
