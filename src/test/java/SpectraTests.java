/** Promises 1 to 10. */
final class SpectraTests {
    private static final Check CHECK = new Check();

    public static void main(String[] args) {
        newObject();
        bands();
        chip();
        cloth();
        dye();
        strength();
        cents();
        band();
        bandOfTheRest();
        pick();
        blend();
        CHECK.end("SpectraTests");
    }

    private static void newObject() {
        CHECK.promise("1 a new object");
        ColourHouse x = new ColourHouse();
        for (int k = 0; k < 16; k++) {
            CHECK.same("band(0, 0, k)", x.band(0, 0, k), 0);
        }
        for (int what = 0; what <= 8; what++) {
            CHECK.same("count(what)", x.count(what), 0);
        }
        CHECK.same("trouble()", x.trouble(), 0);
        CHECK.same("undo()", x.undo(), 0);
        CHECK.same("NONE", ColourHouse.NONE, -1);
    }

    private static void bands() {
        CHECK.promise("2 bands");
        ColourHouse x = new ColourHouse();
        for (int k = 0; k < 4; k++) {
            CHECK.yes("bands", x.bands(k, 4 * k + 1, 4 * k + 2, 4 * k + 3, 0x3f800000 + k));
        }
        for (int k = 0; k < 4; k++) {
            CHECK.same("band 4k", x.band(0, 0, 4 * k), 4 * k + 1);
            CHECK.same("band 4k + 1", x.band(0, 0, 4 * k + 1), 4 * k + 2);
            CHECK.same("band 4k + 2", x.band(0, 0, 4 * k + 2), 4 * k + 3);
            CHECK.same("band 4k + 3", x.band(0, 0, 4 * k + 3), 0x3f800000 + k);
        }
        int[] wrong = {-1, Integer.MIN_VALUE, 0x40000001, 0x7f800000, 0x7fc00000, Integer.MAX_VALUE, 0xbf800000};
        for (int w : wrong) {
            CHECK.no("bands a", x.bands(0, w, 0, 0, 0));
            CHECK.no("bands b", x.bands(0, 0, w, 0, 0));
            CHECK.no("bands c", x.bands(0, 0, 0, w, 0));
            CHECK.no("bands d", x.bands(0, 0, 0, 0, w));
        }
        int[] places = {-1, 4, Integer.MIN_VALUE, Integer.MAX_VALUE, 1073741824};
        for (int k : places) {
            CHECK.no("bands k", x.bands(k, 0, 0, 0, 0));
        }
        CHECK.same("it stays", x.band(0, 0, 0), 1);
        CHECK.same("it stays", x.band(0, 0, 15), 0x3f800003);
        CHECK.same("tells no trouble", x.trouble(), 0);
        int[] edges = {0, 1, 0x007fffff, 0x00800000, 0x00800001, 0x3effffff, 0x3fffffff, 0x40000000};
        for (int e : edges) {
            CHECK.yes("bands edge", x.bands(1, 0, e, 0, 0));
            CHECK.same("band edge", x.band(0, 0, 5), e);
        }
    }

    private static void chip() {
        CHECK.promise("3 chip");
        ColourHouse x = new ColourHouse();
        for (int i = 0; i < 40; i++) {
            x.bands(2, i + 1, 0, 0, 0);
            CHECK.same("chip()", x.chip(), i);
        }
        x.bands(2, 77, 0, 0, 0);
        CHECK.refused("chip() beyond", x, x.chip(), 1);
        CHECK.same("count(0)", x.count(0), 40);
        for (int i = 0; i < 40; i++) {
            CHECK.same("a copy", x.band(1, i, 8), i + 1);
        }
        CHECK.same("undo()", x.undo(), 1);
        CHECK.same("chip() again", x.chip(), 39);
        CHECK.same("trouble()", x.trouble(), 0);
        CHECK.same("the new one", x.band(1, 39, 8), 77);
    }

    private static void cloth() {
        CHECK.promise("4 cloth");
        ColourHouse x = new ColourHouse();
        for (int i = 0; i < 8; i++) {
            x.bands(3, 0, 0, 0, i + 1);
            CHECK.same("cloth()", x.cloth(), i);
        }
        x.bands(3, 0, 0, 0, 99);
        CHECK.refused("cloth() beyond", x, x.cloth(), 1);
        for (int i = 0; i < 8; i++) {
            CHECK.same("a copy", x.band(2, i, 15), i + 1);
        }
        x.undo();
        CHECK.same("cloth() again", x.cloth(), 7);
        CHECK.same("trouble()", x.trouble(), 0);
        CHECK.same("count(1)", x.count(1), 8);
    }

    private static void dye() {
        CHECK.promise("5 dye");
        ColourHouse x = new ColourHouse();
        CHECK.refused("dye(0) ahead of cloths", x, x.dye(0), 2);
        Bench.flatCloth(x, 1);
        Bench.flatCloth(x, 0.5f);
        CHECK.refused("dye(-1)", x, x.dye(-1), 2);
        CHECK.refused("dye(2)", x, x.dye(2), 2);
        for (int i = 0; i < 12; i++) {
            CHECK.same("dye()", x.dye(i % 2), i);
            CHECK.same("trouble()", x.trouble(), 0);
            CHECK.same("its cloth", x.told(i, 9), i % 2);
            CHECK.same("its strengths", x.told(i, 10), 0);
            CHECK.same("its cents", x.told(i, 11), 0);
        }
        CHECK.refused("dye(0) beyond", x, x.dye(0), 1);
        CHECK.refused("dye(2) beyond, no such cloth", x, x.dye(2), 2);
        Bench.flatStrength(x, 11, 5, 0.25f);
        x.cents(11, 9);
        x.undo();
        x.undo();
        x.undo();
        CHECK.same("dye() again", x.dye(0), 11);
        CHECK.same("without strengths", x.told(11, 10), 0);
        CHECK.same("without cents", x.told(11, 11), 0);
        CHECK.same("on its cloth", x.told(11, 9), 0);
    }

    private static void strength() {
        CHECK.promise("6 strength");
        ColourHouse x = new ColourHouse();
        CHECK.refused("strength without a dye", x, x.strength(0, 1), 2);
        Bench.flatCloth(x, 0.75f);
        x.dye(0);
        CHECK.refused("strength(1, 1)", x, x.strength(1, 1), 2);
        CHECK.refused("strength(-1, 0)", x, x.strength(-1, 0), 2);
        int[] wrong = {0, -1, 100001, Integer.MIN_VALUE, Integer.MAX_VALUE};
        for (int g : wrong) {
            CHECK.refused("strength(0, wrong)", x, x.strength(0, g), 3);
        }
        CHECK.same("strength(0, 1)", x.strength(0, 1), 1);
        CHECK.same("trouble()", x.trouble(), 0);
        CHECK.refused("not more than ahead", x, x.strength(0, 1), 3);
        for (int i = 2; i <= 6; i++) {
            CHECK.same("strength", x.strength(0, 10 * i), i);
        }
        CHECK.refused("a seventh, other grams", x, x.strength(0, 60), 3);
        CHECK.refused("a seventh, far too many grams", x, x.strength(0, 100001), 3);
        CHECK.refused("a seventh", x, x.strength(0, 61), 1);
        CHECK.same("told(0, 10)", x.told(0, 10), 6);
        CHECK.same("undo()", x.undo(), 1);
        CHECK.same("the edge", x.strength(0, 100000), 6);
        x.dye(0);
        CHECK.same("the first may be the most", x.strength(1, 100000), 1);
        CHECK.refused("then none is more", x, x.strength(1, 100000), 3);
    }

    private static void cents() {
        CHECK.promise("7 cents");
        ColourHouse x = new ColourHouse();
        CHECK.denied("cents without a dye", x, x.cents(0, -1), 2);
        Bench.flatCloth(x, 1);
        x.dye(0);
        CHECK.denied("cents(1, 0)", x, x.cents(1, 0), 2);
        CHECK.denied("cents(-1, 0)", x, x.cents(-1, 0), 2);
        CHECK.denied("cents(0, -1)", x, x.cents(0, -1), 3);
        CHECK.denied("cents(0, 100001)", x, x.cents(0, 100001), 3);
        CHECK.yes("cents(0, 100000)", x.cents(0, 100000));
        CHECK.same("trouble()", x.trouble(), 0);
        CHECK.same("told(0, 11)", x.told(0, 11), 100000);
        CHECK.yes("cents(0, 0)", x.cents(0, 0));
        CHECK.same("told(0, 11)", x.told(0, 11), 0);
        CHECK.same("two acts more", x.count(7), 4);
    }

    private static void band() {
        CHECK.promise("8 band");
        ColourHouse x = new ColourHouse();
        Bench.four(x, 0.25f, 0.5f, 0.75f, 1);
        x.chip();
        Bench.four(x, 1, 0.5f, 0.25f, 2);
        x.cloth();
        Bench.four(x, 0.125f, 0, 0, 0);
        int[] any = {-1, 0, 1, Integer.MIN_VALUE, Integer.MAX_VALUE};
        for (int i : any) {
            CHECK.bits("the row", x.band(0, i, 0), 0.125f);
        }
        CHECK.bits("a chip", x.band(1, 0, 2), 0.75f);
        CHECK.bits("a cloth", x.band(2, 0, 3), 2f);
        int[] places = {-1, 16, Integer.MIN_VALUE, Integer.MAX_VALUE};
        for (int k : places) {
            for (int sort = 0; sort <= 5; sort++) {
                CHECK.same("band(sort, 0, k)", x.band(sort, 0, k), 0);
            }
        }
        for (int sort = 1; sort <= 5; sort++) {
            CHECK.same("none such", x.band(sort, 1, 0), 0);
            CHECK.same("none such", x.band(sort, -1, 0), 0);
        }
        int[] sorts = {-1, 6, Integer.MIN_VALUE, Integer.MAX_VALUE};
        for (int sort : sorts) {
            CHECK.same("no such sort", x.band(sort, 0, 0), 0);
        }
        CHECK.same("tells no trouble", x.trouble(), 0);
    }

    private static void bandOfTheRest() {
        ColourHouse x = new ColourHouse();
        Bench.flatCloth(x, 0.5f);
        CHECK.same("no prediction yet", x.band(3, 0, 0), 0);
        x.predict(0);
        CHECK.bits("the prediction", x.band(3, -7, 15), Bench.ofQuotient(Bench.quotient(0.5f)));
        x.predict(1);
        CHECK.bits("one that was denied doesn't count", x.band(3, 0, 15), 0.5f);
        x.batch(0, 1);
        CHECK.same("not measured", x.band(5, 0, 0), 0);
        Bench.flat(x, 0.375f);
        x.measured(0);
        CHECK.bits("measured", x.band(5, 0, 7), 0.375f);
        CHECK.same("another batch", x.band(5, 1, 7), 0);
        x.chip();
        CHECK.same("no drift before", x.band(4, 0, 0), 0);
        Bench.flat(x, 0.25f);
        x.remeasure(0);
        CHECK.bits("the drift", x.band(4, 0, 0), -0.125f);
        x.remeasure(0);
        CHECK.same("no drift is 0 and not -0", x.band(4, 0, 0), 0);
    }

    private static void pick() {
        CHECK.promise("9 pick");
        ColourHouse x = new ColourHouse();
        Bench.flatChip(x, 0.25f);
        Bench.flatCloth(x, 0.5f);
        x.batch(0, 1);
        Bench.flat(x, 0.125f);
        int[][] none = {{0, 0}, {4, 0}, {6, 0}, {-1, 0}, {1, 1}, {1, -1}, {2, 1}, {2, -1}, {3, 0}, {5, 0}, {5, 1}};
        for (int[] n : none) {
            CHECK.denied("pick(" + n[0] + ", " + n[1] + ")", x, x.pick(n[0], n[1]), 2);
            CHECK.bits("it stays", x.band(0, 0, 0), 0.125f);
        }
        CHECK.yes("pick(1, 0)", x.pick(1, 0));
        CHECK.same("trouble()", x.trouble(), 0);
        CHECK.bits("the chip", x.band(0, 0, 15), 0.25f);
        CHECK.yes("pick(2, 0)", x.pick(2, 0));
        CHECK.bits("the cloth", x.band(0, 0, 15), 0.5f);
        Bench.flat(x, 0.75f);
        x.measured(0);
        x.predict(0);
        Bench.flat(x, 1);
        CHECK.yes("pick(5, 0)", x.pick(5, 0));
        CHECK.bits("the batch", x.band(0, 0, 3), 0.75f);
        CHECK.yes("pick(3, 9)", x.pick(3, 9));
        CHECK.bits("the prediction", x.band(0, 0, 3), 0.5f);
        x.bands(0, 0, 0, 0, 0);
        CHECK.bits("a copy", x.band(3, 0, 3), 0.5f);
    }

    private static void blend() {
        CHECK.promise("10 blend");
        ColourHouse x = new ColourHouse();
        Bench.four(x, 0.3f, 2, 1e-45f, 0.7f);
        x.chip();
        Bench.four(x, 0.9f, 2, 0, 0.1f);
        x.chip();
        CHECK.refused("blend(0, 2, 3, 2)", x, x.blend(0, 2, 3, 2), 2);
        CHECK.refused("blend(-1, 0, 1, 2)", x, x.blend(-1, 0, 1, 2), 2);
        int[][] wrong = {{-1, 5}, {6, 5}, {0, 0}, {1, 0}, {0, -1}, {0, 1001}, {1001, 1001}, {-2, -1}};
        for (int[] w : wrong) {
            CHECK.refused("blend(0, 1, " + w[0] + ", " + w[1] + ")", x, x.blend(0, 1, w[0], w[1]), 3);
        }
        int[][] shares = {{1, 3}, {0, 1}, {1, 1}, {999, 1000}, {1000, 1000}, {0, 1000}, {1, 2}};
        float[] a = {0.3f, 2, 1e-45f, 0.7f};
        float[] b = {0.9f, 2, 0, 0.1f};
        for (int n = 0; n < shares.length; n++) {
            int up = shares[n][0];
            int down = shares[n][1];
            CHECK.same("blend", x.blend(0, 1, up, down), n + 2);
            CHECK.same("trouble()", x.trouble(), 0);
            for (int k = 0; k < 4; k++) {
                float due = (float) (((double) a[k] * up + (double) b[k] * (down - up)) / down);
                CHECK.bits("a band of " + up + "/" + down, x.band(1, n + 2, k), due);
            }
            CHECK.same("no drift", x.band(4, n + 2, 0), 0);
        }
        for (int i = x.count(0); i < 40; i++) {
            CHECK.same("blend of one", x.blend(0, 0, 1, 7), i);
        }
        CHECK.refused("no room", x, x.blend(0, 1, 1, 2), 1);
        CHECK.refused("no room, a number", x, x.blend(0, 1, 3, 2), 3);
    }
}
