import java.util.NoSuchElementException;

/** Promises 34 to 43. */
final class KeepingTests {
    private static final Check CHECK = new Check();

    public static void main(String[] args) {
        remeasure();
        drift();
        pack();
        packTheRest();
        out();
        letter();
        post();
        unpack();
        undoEach();
        undoOthers();
        undoSixty();
        notActs();
        trouble();
        count();
        CHECK.end("KeepingTests");
    }

    private static void remeasure() {
        CHECK.promise("34 remeasure");
        ColourHouse x = new ColourHouse();
        CHECK.denied("remeasure(0)", x, x.remeasure(0), 2);
        Bench.four(x, 0.3f, 0.5f, 2, 1e-45f);
        x.chip();
        CHECK.denied("remeasure(1)", x, x.remeasure(1), 2);
        CHECK.denied("remeasure(-1)", x, x.remeasure(-1), 2);
        Bench.four(x, 0.7f, 0.1f, 0, 0);
        CHECK.yes("remeasure(0)", x.remeasure(0));
        CHECK.same("trouble()", x.trouble(), 0);
        CHECK.bits("the new band", x.band(1, 0, 0), 0.7f);
        CHECK.bits("up", x.band(4, 0, 0), 0.7f - 0.3f);
        CHECK.bits("down", x.band(4, 0, 1), 0.1f - 0.5f);
        CHECK.bits("all the way", x.band(4, 0, 2), -2f);
        CHECK.bits("the least", x.band(4, 0, 3), -1e-45f);
        Bench.four(x, 0.75f, 0.1f, 0, 0);
        x.remeasure(0);
        CHECK.bits("of the latest", x.band(4, 0, 0), 0.75f - 0.7f);
        CHECK.bits("none", x.band(4, 0, 1), 0f);
        CHECK.same("undo()", x.undo(), 1);
        CHECK.bits("its bands are back", x.band(1, 0, 0), 0.7f);
        CHECK.bits("its drift is back", x.band(4, 0, 0), 0.7f - 0.3f);
        x.undo();
        CHECK.bits("its bands are back", x.band(1, 0, 3), 1e-45f);
        CHECK.bits("0 before", x.band(4, 0, 0), 0f);
    }

    private static void drift() {
        CHECK.promise("35 drift");
        ColourHouse x = new ColourHouse();
        CHECK.same("no such chip", x.drift(0), 0);
        Bench.four(x, 0.3f, 0.5f, 0.11f, 1);
        x.chip();
        CHECK.same("0 before", x.drift(0), 0);
        CHECK.same("no such chip", x.drift(1), 0);
        CHECK.same("no such chip", x.drift(-1), 0);
        Bench.four(x, 0.7f, 0.1f, 0.93f, 0.2f);
        x.remeasure(0);
        double sum = 0.0 + (0.7f - 0.3f) + (0.1f - 0.5f) + (0.93f - 0.11f) + (0.2f - 1f);
        CHECK.bits("the mean", x.drift(0), (float) (sum / 16.0));
        Bench.four(x, 0, 0, 0, 0);
        x.remeasure(0);
        CHECK.yes("below 0", x.drift(0) < 0);
        Bench.four(x, 1e-45f, 0, 0, 0);
        x.remeasure(0);
        CHECK.bits("too little for a float", x.drift(0), 0f);
        Bench.four(x, 0, 0, 0, 0);
        x.remeasure(0);
        CHECK.bits("below 0 and too little for a float", x.drift(0), -0f);
        x.bands(0, 12, 0, 0, 0);
        x.remeasure(0);
        CHECK.same("a half and more is made one", x.drift(0), 1);
    }

    private static int[] bytesOf(ColourHouse x, int sort, int i) {
        int[] bytes = new int[68];
        int sum = 17;
        int word = 0;
        for (int k = 0; k < 64; k++) {
            word = k % 4 == 0 ? x.band(sort, i, k / 4) : word;
            bytes[k] = word >>> (24 - 8 * (k % 4)) & 255;
            sum = sum * 31 + bytes[k];
        }
        for (int k = 0; k < 4; k++) {
            bytes[64 + k] = sum >>> (24 - 8 * k) & 255;
        }
        return bytes;
    }

    private static void isOut(ColourHouse x, int[] bytes) {
        CHECK.same("count(8)", x.count(8), 68);
        for (int k = 0; k < 68; k++) {
            CHECK.same("out(" + k + ")", x.out(k), bytes[k]);
        }
    }

    private static void pack() {
        CHECK.promise("36 pack");
        ColourHouse x = new ColourHouse();
        for (int k = 0; k < 4; k++) {
            x.bands(k, 0x3f812345 + k, 0x3eabcdef - k, 0x40000000, k);
        }
        x.chip();
        isOutAfter(x, 0, -5);
        Bench.flat(x, 0.77f);
        x.cloth();
        isOutAfter(x, 1, 0);
        isOutAfter(x, 2, 0);
        int[] kept = bytesOf(x, 2, 0);
        int[][] none = {{1, 1}, {1, -1}, {2, 1}, {3, 0}, {4, 0}, {5, 0}, {6, 0}, {-1, 0}};
        x.light(9, 9, 9);
        for (int[] n : none) {
            CHECK.same("pack of none", x.pack(n[0], n[1]), -1);
            CHECK.same("tells no trouble", x.trouble(), 3);
        }
        isOut(x, kept);
    }

    private static void packTheRest() {
        ColourHouse x = new ColourHouse();
        Bench.flatCloth(x, 0.77f);
        x.predict(0);
        isOutAfter(x, 3, 4);
        x.batch(0, 1);
        CHECK.same("not measured", x.pack(5, 0), -1);
        Bench.flat(x, 0.11f);
        x.measured(0);
        isOutAfter(x, 5, 0);
        Bench.flat(x, 0);
        isOut(x, bytesOf(x, 5, 0));
    }

    private static void isOutAfter(ColourHouse x, int sort, int i) {
        CHECK.same("pack(" + sort + ", " + i + ")", x.pack(sort, i), 68);
        isOut(x, bytesOf(x, sort, i));
    }

    private static boolean throwsOut(ColourHouse x, int i) {
        try {
            x.out(i);
            return false;
        } catch (NoSuchElementException e) {
            return true;
        }
    }

    private static void out() {
        CHECK.promise("37 out");
        ColourHouse x = new ColourHouse();
        CHECK.yes("out(0) of nothing", throwsOut(x, 0));
        CHECK.yes("out(-1) of nothing", throwsOut(x, -1));
        x.pack(0, 0);
        CHECK.no("out(0)", throwsOut(x, 0));
        CHECK.no("out(67)", throwsOut(x, 67));
        int[] wrong = {-1, 68, Integer.MIN_VALUE, Integer.MAX_VALUE};
        for (int i : wrong) {
            CHECK.yes("out(" + i + ")", throwsOut(x, i));
        }
    }

    private static void letter() {
        CHECK.promise("38 letter");
        ColourHouse x = new ColourHouse();
        int[][] wrong = {{-1, 0}, {68, 0}, {0, -1}, {0, 256}, {Integer.MAX_VALUE, 0}, {0, Integer.MIN_VALUE}};
        for (int[] w : wrong) {
            CHECK.no("letter", x.letter(w[0], w[1]));
        }
        CHECK.same("tells no trouble", x.trouble(), 0);
        // 0 at first: the sum of 64 noughts isn't 0
        CHECK.denied("unpack()", x, x.unpack(), 5);
        int sum = 17;
        for (int k = 0; k < 64; k++) {
            sum *= 31;
        }
        for (int k = 0; k < 4; k++) {
            CHECK.yes("letter", x.letter(64 + k, sum >>> (24 - 8 * k) & 255));
        }
        CHECK.yes("0 at first", x.unpack());
        CHECK.yes("letter(0, 255)", x.letter(0, 255));
        CHECK.denied("another byte", x, x.unpack(), 5);
    }

    private static void post() {
        CHECK.promise("39 post");
        ColourHouse x = new ColourHouse();
        CHECK.no("nothing to post", x.post());
        CHECK.same("tells no trouble", x.trouble(), 0);
        Bench.four(x, 0.1f, 0.2f, 0.3f, 2);
        x.pack(0, 0);
        CHECK.yes("post()", x.post());
        Bench.flat(x, 1);
        x.pack(0, 0);
        x.letter(0, x.out(0));
        CHECK.denied("the letter is a copy", x, x.unpack(), 5);
        CHECK.yes("post() anew", x.post());
        CHECK.yes("unpack()", x.unpack());
        CHECK.bits("the new one", x.band(0, 0, 2), 1f);
    }

    private static void write(ColourHouse x, int[] words) {
        int sum = 17;
        for (int k = 0; k < 64; k++) {
            int b = words[k / 4] >>> (24 - 8 * (k % 4)) & 255;
            x.letter(k, b);
            sum = sum * 31 + b;
        }
        for (int k = 0; k < 4; k++) {
            x.letter(64 + k, sum >>> (24 - 8 * k) & 255);
        }
    }

    private static void unpack() {
        CHECK.promise("40 unpack");
        ColourHouse x = new ColourHouse();
        int[] words = new int[16];
        for (int k = 0; k < 16; k++) {
            words[k] = k == 15 ? 0x40000000 : 0x3f000000 + 77777 * k;
        }
        write(x, words);
        CHECK.yes("unpack()", x.unpack());
        CHECK.same("trouble()", x.trouble(), 0);
        for (int k = 0; k < 16; k++) {
            CHECK.same("band", x.band(0, 0, k), words[k]);
        }
        Bench.flat(x, 0.5f);
        int[] wrong = {0x40000001, -1, Integer.MIN_VALUE, 0x7fc00000};
        for (int w : wrong) {
            words[15] = w;
            write(x, words);
            CHECK.denied("a float that isn't taken", x, x.unpack(), 3);
            CHECK.bits("it stays", x.band(0, 0, 0), 0.5f);
            x.letter(67, 300);
            x.letter(66, (x.band(0, 0, 0) & 1) + 1);
            x.letter(65, 1);
            CHECK.denied("the sum goes first", x, x.unpack(), 5);
        }
        CHECK.bits("it stays", x.band(0, 0, 15), 0.5f);
        CHECK.same("no act", x.count(7), 0);
    }

    private static void undoEach() {
        CHECK.promise("41 undo");
        ColourHouse x = new ColourHouse();
        Bench.flatCloth(x, 0.9f);
        x.dye(0);
        Bench.flatStrength(x, 0, 10, 0.5f);
        Bench.flatStrength(x, 0, 20, 0.25f);
        x.cents(0, 5);
        x.cents(0, 6);
        x.chip();
        x.blend(0, 0, 1, 2);
        x.solid(0, 1, 0, 0, 1, 1, 1);
        x.lot(0, 1, 1, 9000);
        x.lot(0, 1, 1, 9000);
        x.batch(0, 5);
        x.weigh(0, 1, 2);
        x.weigh(0, 0, 3);
        x.weigh(0, 1, 4);
        x.measured(0);
        Bench.flat(x, 0.125f);
        x.remeasure(0);
        CHECK.same("count(7)", x.count(7), 17);
        CHECK.same("remeasure", x.undo(), 1);
        CHECK.bits("the chip", x.band(1, 0, 0), 0.25f);
        CHECK.bits("the row isn't taken back", x.band(0, 0, 0), 0.125f);
        CHECK.same("measured", x.undo(), 1);
        CHECK.same("not measured", x.told(0, 8), 0);
        CHECK.same("weigh", x.undo(), 1);
        CHECK.same("its grams", x.weighed(0, 0, true), 2);
        CHECK.same("its lot's stock", x.told(1, 1), 7000);
        CHECK.same("weigh", x.undo(), 1);
        CHECK.same("its lots", x.told(0, 6), 1);
        CHECK.same("the stock", x.told(0, 1), 9000);
        CHECK.same("weigh", x.undo(), 1);
        CHECK.same("its lots", x.told(0, 6), 0);
        CHECK.same("in all", x.told(0, 7), 0);
        int[] made = {5, 4, 4, 3, 0, 0};
        for (int kind : made) {
            int n = x.count(kind);
            CHECK.same("undo()", x.undo(), 1);
            CHECK.same("count(" + kind + ")", x.count(kind), n - 1);
        }
        CHECK.same("cents", x.undo(), 1);
        CHECK.same("its cents", x.told(0, 11), 5);
        CHECK.same("cents", x.undo(), 1);
        CHECK.same("its cents", x.told(0, 11), 0);
        CHECK.same("strength", x.undo(), 1);
        CHECK.same("its strengths", x.told(0, 10), 1);
        x.part(false, 0, 20);
        x.predict(0);
        double own = Bench.quotient(0.5f) - Bench.quotient(0.9f);
        CHECK.bits("by the first alone", x.band(3, 0, 0), Bench.ofQuotient(Bench.quotient(0.9f) + own * 2.0));
        CHECK.same("and anew", Bench.flatStrength(x, 0, 11, 0.3f), 2);
        x.undo();
        CHECK.same("strength", x.undo(), 1);
        CHECK.same("dye", x.undo(), 1);
        CHECK.same("cloth", x.undo(), 1);
        for (int what = 0; what < 8; what++) {
            CHECK.same("nothing is left", x.count(what), 0);
        }
        CHECK.same("undo()", x.undo(), 0);
    }

    /** Of several of a sort the one that the act changed. */
    private static void undoOthers() {
        ColourHouse x = new ColourHouse();
        Bench.flatCloth(x, 0.9f);
        x.dye(0);
        x.dye(0);
        x.batch(0, 1);
        x.batch(0, 1);
        x.chip();
        x.chip();
        Bench.flatStrength(x, 1, 7, 0.5f);
        x.undo();
        CHECK.same("dye 1 has no strength", x.told(1, 10), 0);
        CHECK.same("dye 0 has no strength", x.told(0, 10), 0);
        x.cents(1, 3);
        x.undo();
        CHECK.same("dye 1 has no cents", x.told(1, 11), 0);
        x.measured(1);
        x.undo();
        CHECK.same("batch 1 isn't measured", x.told(1, 8), 0);
        CHECK.same("nor is batch 0", x.told(0, 8), 0);
        x.remeasure(1);
        x.undo();
        CHECK.bits("chip 1 as ahead of it", x.band(1, 1, 0), 0.9f);
        x.remeasure(1);
        x.undo();
        x.undo();
        CHECK.same("chip 1 anew", x.chip(), 1);
        CHECK.same("without a drift", x.band(4, 1, 0), 0);
    }

    private static void undoSixty() {
        ColourHouse x = new ColourHouse();
        x.cloth();
        x.dye(0);
        for (int c = 1; c <= 70; c++) {
            x.cents(0, c);
        }
        CHECK.same("sixty at most", x.count(7), 60);
        for (int c = 69; c >= 40; c--) {
            CHECK.same("undo()", x.undo(), 1);
            CHECK.same("its cents", x.told(0, 11), c);
        }
        for (int c = 1; c <= 10; c++) {
            x.cents(0, 1000 + c);
        }
        CHECK.same("count(7)", x.count(7), 40);
        for (int n = 0; n < 40; n++) {
            CHECK.same("undo()", x.undo(), 1);
        }
        CHECK.same("as sixty acts ahead", x.told(0, 11), 10);
        CHECK.same("no more", x.undo(), 0);
        CHECK.same("it stays", x.count(2), 1);
        Bench.flatChip(x, 0.5f);
        for (int n = 1; n <= 61; n++) {
            x.bands(0, n, n, n, n);
            x.remeasure(0);
        }
        for (int n = 60; n >= 1; n--) {
            CHECK.same("undo()", x.undo(), 1);
            CHECK.same("band(1, 0, 0)", x.band(1, 0, 0), n);
        }
        CHECK.same("no more", x.undo(), 0);
        CHECK.same("count(7)", x.count(7), 0);
    }

    private static void notActs() {
        ColourHouse x = new ColourHouse();
        Bench.flatCloth(x, 0.5f);
        x.chip();
        int acts = x.count(7);
        x.dye(9);
        x.light(0, 0, 5);
        x.eye(0, 0, 0, 5);
        x.measure(2, 2, 2);
        x.predict(0);
        x.pick(3, 0);
        x.pack(0, 0);
        x.post();
        x.unpack();
        x.letter(0, 1);
        x.recipe(0, 0, 0, 0, 0, 1, 1, 1);
        CHECK.same("none of these", x.count(7), acts);
        x.undo();
        CHECK.same("the chip is gone", x.count(0), 0);
        CHECK.bits("the prediction stays", x.band(3, 0, 0), 0.5f);
        x.undo();
        CHECK.bits("without its cloth too", x.band(3, 0, 0), 0.5f);
        CHECK.same("OUT stays", x.count(8), 68);
    }

    private static void trouble() {
        CHECK.promise("42 trouble");
        ColourHouse x = new ColourHouse();
        x.dye(0);
        CHECK.same("2", x.trouble(), 2);
        x.bands(0, 0, 0, 0, 0);
        x.bands(9, 0, 0, 0, 0);
        x.band(9, 9, 9);
        x.colour(0, 0, 0, 0, 0);
        x.distance(0, 0, 0, 0);
        x.nearest(0, 0, 0);
        x.parting(0, 0, 0);
        x.inside(0, 0);
        x.recipeOf(0);
        x.recipeBy(0);
        x.addition(0);
        x.passes(0, 0);
        x.told(0, 0);
        x.weighed(0, 0, true);
        x.drift(0);
        x.pack(0, 0);
        x.pack(9, 0);
        x.out(0);
        x.letter(0, 0);
        x.letter(-1, 0);
        x.post();
        x.undo();
        x.count(0);
        x.trouble();
        CHECK.same("none of these tells one", x.trouble(), 2);
        x.measure(0, 0, 0);
        CHECK.same("3", x.trouble(), 3);
        x.chip();
        CHECK.same("accepted", x.trouble(), 0);
        x.letter(0, 7);
        x.unpack();
        CHECK.same("5", x.trouble(), 5);
        x.undo();
        CHECK.same("undo tells none", x.trouble(), 5);
        x.cloth();
        CHECK.same("accepted", x.trouble(), 0);
    }

    private static void count() {
        CHECK.promise("43 count");
        ColourHouse x = new ColourHouse();
        Bench.flatCloth(x, 0.5f);
        x.cloth();
        x.chip();
        x.chip();
        x.blend(0, 1, 1, 2);
        for (int n = 0; n < 4; n++) {
            x.dye(0);
        }
        for (int n = 0; n < 5; n++) {
            x.solid(0, 0, 0, 0, 1, 1, 1);
        }
        for (int n = 0; n < 6; n++) {
            x.lot(0, 1, 1, 1);
        }
        for (int n = 0; n < 7; n++) {
            x.batch(0, 1);
        }
        x.part(false, 0, 1);
        int[] due = {3, 2, 4, 5, 6, 7, 1, 27, 0};
        for (int what = 0; what < due.length; what++) {
            CHECK.same("count(" + what + ")", x.count(what), due[what]);
        }
        x.pack(0, 0);
        CHECK.same("count(8)", x.count(8), 68);
        int[] none = {-1, 9, Integer.MIN_VALUE, Integer.MAX_VALUE};
        for (int what : none) {
            CHECK.same("count(none)", x.count(what), -1);
        }
    }
}
