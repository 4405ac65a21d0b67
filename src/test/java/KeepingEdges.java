import java.util.NoSuchElementException;

/** Promises 34 to 40, 42 and 43, and term VI. */
final class KeepingEdges {
    private static final Check CHECK = EdgeTests.check();
    private static final Twins TWINS = new Twins(CHECK);
    private static final int NONE = ColourHouse.NONE;
    private static final int KEPT = Twins.KEPT;
    private static final int LEAST = Integer.MIN_VALUE;
    private static final int GREATEST = Integer.MAX_VALUE;

    private KeepingEdges() {
    }

    static void term6_ofTheLatest() {
        CHECK.says("its DRIFT: for each band the float new - old of the latest one (0 before).");
        ColourHouse x = new ColourHouse();
        float[][] rows = {{0.3f, 0, 2, 0}, {0.7f, 2, 0, 1e-45f}, {0.1f, 2, 1e-45f, 0}, {0.1f, 2, 1e-45f, 0}};
        Bench.four(x, rows[0][0], rows[0][1], rows[0][2], rows[0][3]);
        x.chip();
        for (int k = 0; k < 16; k++) {
            CHECK.same("0 before", x.band(4, 0, k), 0);
        }
        for (int n = 1; n < rows.length; n++) {
            Bench.four(x, rows[n][0], rows[n][1], rows[n][2], rows[n][3]);
            x.remeasure(0);
            for (int k = 0; k < 4; k++) {
                CHECK.bits("band " + k + " of the chip", x.band(1, 0, k), rows[n][k]);
                CHECK.bits("band " + k + " of its DRIFT", x.band(4, 0, k), rows[n][k] - rows[n - 1][k]);
            }
            CHECK.same("what stays is 0, not -0", x.band(4, 0, 15), 0);
        }
    }

    static void term6_blendsToo() {
        CHECK.says("(0 before)");
        ColourHouse x = new ColourHouse();
        Bench.flatChip(x, 0.5f);
        Bench.flat(x, 0.25f);
        x.remeasure(0);
        CHECK.same("a blend of what has moved", x.blend(0, 0, 1, 2), 1);
        CHECK.same("hasn't", x.band(4, 1, 0), 0);
        CHECK.same("hasn't", x.drift(1), 0);
        CHECK.bits("its band is the new one", x.band(1, 1, 0), 0.25f);
        x.remeasure(1);
        CHECK.same("nor by its own bands", x.band(4, 1, 0), 0);
        CHECK.bits("the other's stays", x.band(4, 0, 0), -0.25f);
    }

    static void promise34_rowIsWhatItHasBecome() {
        CHECK.says("THE ROW is what a chip has become: true");
        ColourHouse x = new ColourHouse();
        for (int i = 0; i < 40; i++) {
            x.chip();
        }
        x.bands(3, 1, 2, 3, 4);
        x.measure(0, 0, 0);
        CHECK.yes("remeasure(39)", x.remeasure(39));
        CHECK.same("trouble()", x.trouble(), 0);
        CHECK.same("its band", x.band(1, 39, 15), 4);
        CHECK.same("another's", x.band(1, 38, 15), 0);
        CHECK.same("count(0)", x.count(0), 40);
        CHECK.yes("remeasure(0)", x.remeasure(0));
        x.bands(3, 5, 6, 7, 8);
        CHECK.same("it is a copy", x.band(1, 0, 15), 4);
    }

    static void promise34_noneSuch() {
        CHECK.says("false, trouble 2 if there is none such.");
        int[] none = {-1, 4, 40, LEAST, GREATEST};
        for (int c : none) {
            TWINS.refusedOnRich("remeasure(" + c + ")", x -> x.remeasure(c) ? 1 : 0, 0, 2);
        }
        ColourHouse empty = new ColourHouse();
        CHECK.denied("remeasure(0) without chips", empty, empty.remeasure(0), 2);
    }

    /** The drift of a chip of these four bands that is measured anew as those. */
    private static int driftOf(float[] from, float[] to) {
        ColourHouse x = new ColourHouse();
        Bench.four(x, from[0], from[1], from[2], from[3]);
        x.chip();
        Bench.four(x, to[0], to[1], to[2], to[3]);
        x.remeasure(0);
        return x.drift(0);
    }

    private static float[] row(float a, float b, float c, float d) {
        return new float[] {a, b, c, d};
    }

    static void promise35_mean() {
        CHECK.says("The bits of the mean of a chip's DRIFT: the sum of its floats as doubles, from 0.0 on, / 16.0, "
            + "made a float");
        float tiny = Float.MIN_VALUE;
        CHECK.bits("the greatest of one band", driftOf(row(0, 0, 0, 0), row(2, 0, 0, 0)), 0.125f);
        CHECK.bits("the least of one band", driftOf(row(2, 0, 0, 0), row(0, 0, 0, 0)), -0.125f);
        CHECK.bits("what cancels out", driftOf(row(0, 0.75f, 0, 0), row(0.75f, 0, 0, 0)), 0f);
        // as floats the sum would lose the little ones
        double sum = (double) (1f - 0f) + (double) (3e-8f - 0f) + (double) (3e-8f - 0f);
        CHECK.bits("as doubles", driftOf(row(0, 0, 0, 0), row(1, 3e-8f, 3e-8f, 0)), (float) (sum / 16.0));
        CHECK.yes("that tells", (float) (sum / 16.0) != (1f + 3e-8f + 3e-8f) / 16f);
        double three = (0.7f - 0.3f) + (double) (0.1f - 0.5f) + (double) (0.93f - 0.11f) + (double) (0.2f - 1f);
        CHECK.bits("of four", driftOf(row(0.3f, 0.5f, 0.11f, 1), row(0.7f, 0.1f, 0.93f, 0.2f)), (float) (three / 16.0));
        CHECK.same("a half of the least float is even", driftOf(row(0, 0, 0, 0), row(8 * tiny, 0, 0, 0)), 0);
        CHECK.same("more than a half", driftOf(row(0, 0, 0, 0), row(8 * tiny, tiny, 0, 0)), 1);
        CHECK.same("one and a half is even", driftOf(row(0, 0, 0, 0), row(24 * tiny, 0, 0, 0)), 2);
        CHECK.bits("below 0, too little", driftOf(row(tiny, 0, 0, 0), row(0, 0, 0, 0)), -0f);
        CHECK.same("above 0, too little", driftOf(row(0, 0, 0, 0), row(tiny, 0, 0, 0)), 0);
    }

    static void promise35_allBands() {
        CHECK.says("the sum of its floats");
        ColourHouse x = new ColourHouse();
        Bench.flatChip(x, 0);
        Bench.flat(x, 2);
        x.remeasure(0);
        CHECK.bits("the greatest", x.drift(0), 2f);
        Bench.flat(x, 0);
        x.remeasure(0);
        CHECK.bits("the least", x.drift(0), -2f);
        x.remeasure(0);
        CHECK.same("none", x.drift(0), 0);
        for (int k = 0; k < 16; k++) {
            int bits = Bench.bits(1);
            int[] four = {k % 4 == 0 ? bits : 0, k % 4 == 1 ? bits : 0, k % 4 == 2 ? bits : 0, k % 4 == 3 ? bits : 0};
            Bench.flat(x, 0);
            x.remeasure(0);
            x.bands(k / 4, four[0], four[1], four[2], four[3]);
            x.remeasure(0);
            CHECK.bits("of band " + k, x.drift(0), 0.0625f);
        }
    }

    static void promise35_noneSuch() {
        CHECK.says("0 if there is none such.");
        int[] none = {-1, 4, 40, LEAST, GREATEST};
        for (int c : none) {
            TWINS.refusedOnRich("drift(" + c + ")", x -> x.drift(c), 0, KEPT);
        }
        ColourHouse x = new ColourHouse();
        CHECK.same("drift(0) without chips", x.drift(0), 0);
        x.chip();
        CHECK.same("drift(0) of a new chip", x.drift(0), 0);
    }

    /** OUT by the document: 16 times four bytes, and their SUM. */
    private static void isOut(ColourHouse x, int[] words) {
        CHECK.same("count(8)", x.count(8), 68);
        int sum = 17;
        for (int k = 0; k < 64; k++) {
            int due = words[k / 4] >>> (24 - 8 * (k % 4)) & 255;
            CHECK.same("out(" + k + ")", x.out(k), due);
            sum = sum * 31 + due;
        }
        for (int k = 0; k < 4; k++) {
            CHECK.same("out(" + (64 + k) + ")", x.out(64 + k), sum >>> (24 - 8 * k) & 255);
        }
    }

    static void promise36_sum() {
        CHECK.says("16 times four, the highest first, then four of the SUM: from 17 on, for each byte ahead "
            + "SUM * 31 + byte (0 .. 255), an int that wraps: 68.");
        int[][] all = new int[4][16];
        for (int k = 0; k < 16; k++) {
            all[1][k] = 0x40000000;
            all[2][k] = 0x3fffffff;
            all[3][k] = 0x00ff00ff + 0x01010101 * k;
        }
        for (int[] words : all) {
            ColourHouse x = new ColourHouse();
            for (int k = 0; k < 4; k++) {
                x.bands(k, words[4 * k], words[4 * k + 1], words[4 * k + 2], words[4 * k + 3]);
            }
            CHECK.same("pack(0, 0)", x.pack(0, 0), 68);
            isOut(x, words);
        }
    }

    static void promise36_spectra() {
        CHECK.says("OUT is a spectrum (sort, i as in band() but 4) as bytes");
        int[][] taken = {{0, LEAST}, {0, GREATEST}, {1, 0}, {1, 3}, {2, 0}, {2, 1}, {3, LEAST}, {3, 0}, {5, 0}};
        for (int[] t : taken) {
            ColourHouse x = new ColourHouse();
            Bench.rich(x);
            int[] words = new int[16];
            for (int k = 0; k < 16; k++) {
                words[k] = x.band(t[0], t[1], k);
            }
            CHECK.same("pack(" + t[0] + ", " + t[1] + ")", x.pack(t[0], t[1]), 68);
            isOut(x, words);
            CHECK.same("tells no trouble", x.trouble(), KEPT);
        }
    }

    static void promise36_noneSuch() {
        CHECK.says("NONE (OUT stays) if there is none such.");
        int[][] none = {{4, 0}, {4, 1}, {-1, 0}, {6, 0}, {LEAST, 0}, {GREATEST, 0}, {1, -1}, {1, 4}, {1, LEAST},
            {1, GREATEST}, {2, -1}, {2, 2}, {5, -1}, {5, 1}, {5, 2}};
        for (int[] n : none) {
            TWINS.refusedOnRich("pack(" + n[0] + ", " + n[1] + ")", x -> x.pack(n[0], n[1]), NONE, KEPT);
        }
        ColourHouse x = new ColourHouse();
        for (int sort = 1; sort <= 5; sort++) {
            CHECK.same("pack(" + sort + ", 0) of nothing", x.pack(sort, 0), NONE);
        }
        CHECK.same("OUT has none", x.count(8), 0);
    }

    private static long outOrThrows(ColourHouse x, int i) {
        try {
            return x.out(i);
        } catch (NoSuchElementException e) {
            return -7;
        }
    }

    static void promise37_byte() {
        CHECK.says("Byte i of OUT (0 .. 255).");
        ColourHouse x = new ColourHouse();
        x.bands(0, 0x3fff00ff, 0, 0, 0);
        x.pack(0, 0);
        int[] due = {0x3f, 0xff, 0, 0xff};
        for (int i = 0; i < 4; i++) {
            CHECK.same("out(" + i + ")", x.out(i), due[i]);
        }
        for (int i = 64; i < 68; i++) {
            CHECK.yes("out(" + i + ") is one of 0 .. 255", x.out(i) >= 0 && x.out(i) <= 255);
        }
    }

    static void promise37_noneSuch() {
        CHECK.says("NoSuchElementException if there is none such.");
        int[] none = {-1, 68, LEAST, GREATEST};
        for (int i : none) {
            TWINS.refusedOnRich("out(" + i + ")", x -> outOrThrows(x, i), -7, KEPT);
        }
        ColourHouse x = new ColourHouse();
        for (int i = -1; i <= 68; i++) {
            CHECK.same("out(" + i + ") of nothing", outOrThrows(x, i), -7);
        }
        x.pack(1, 0);
        CHECK.same("out(0) behind a pack() that was NONE", outOrThrows(x, 0), -7);
        x.pack(0, 0);
        CHECK.same("out(0)", outOrThrows(x, 0), 0);
        CHECK.yes("out(67)", outOrThrows(x, 67) >= 0);
    }

    static void promise38_becomes() {
        CHECK.says("Byte k (0 .. 67) of THE LETTER (0 at first) becomes b (0 .. 255): true");
        ColourHouse x = new ColourHouse();
        int sum = 17;
        for (int k = 0; k < 64; k++) {
            sum = sum * 31;
        }
        for (int k = 0; k < 4; k++) {
            CHECK.yes("letter(" + (64 + k) + ", ..)", x.letter(64 + k, sum >>> (24 - 8 * k) & 255));
        }
        x.bands(0, 1, 1, 1, 1);
        CHECK.yes("0 at first", x.unpack());
        CHECK.same("band(0, 0, 0)", x.band(0, 0, 0), 0);
        for (int k = 0; k < 68; k++) {
            CHECK.yes("letter(" + k + ", 255)", x.letter(k, 255));
            CHECK.yes("letter(" + k + ", 0)", x.letter(k, 0));
        }
        for (int k = 0; k < 4; k++) {
            CHECK.yes("letter(" + (64 + k) + ", ..)", x.letter(64 + k, sum >>> (24 - 8 * k) & 255));
        }
        x.measure(0, 0, 0);
        CHECK.yes("letter(67, its own)", x.letter(67, sum & 255));
        CHECK.same("tells no trouble", x.trouble(), 3);
        CHECK.yes("all are 0 again", x.unpack());
    }

    static void promise38_others() {
        CHECK.says("false for others.");
        int[][] wrong = {{-1, 0}, {68, 0}, {LEAST, 0}, {GREATEST, 0}, {0, -1}, {0, 256}, {67, -1}, {67, 256}, {0, LEAST},
            {0, GREATEST}, {-1, -1}};
        for (int[] w : wrong) {
            TWINS.refusedOnRich("letter(" + w[0] + ", " + w[1] + ")", x -> x.letter(w[0], w[1]) ? 1 : 0, 0, KEPT);
        }
    }

    static void promise39_becomes() {
        CHECK.says("THE LETTER becomes what OUT is: true");
        ColourHouse x = new ColourHouse();
        for (int k = 0; k < 4; k++) {
            x.bands(k, 4 * k + 1, 4 * k + 2, 0x3fffffff - k, 0x40000000);
        }
        x.pack(0, 0);
        x.measure(0, 0, 0);
        CHECK.yes("post()", x.post());
        CHECK.same("tells no trouble", x.trouble(), 3);
        Bench.flat(x, 1);
        x.pack(0, 0);
        CHECK.yes("unpack()", x.unpack());
        for (int k = 0; k < 4; k++) {
            CHECK.same("band", x.band(0, 0, 4 * k), 4 * k + 1);
            CHECK.same("band", x.band(0, 0, 4 * k + 1), 4 * k + 2);
            CHECK.same("band", x.band(0, 0, 4 * k + 2), 0x3fffffff - k);
            CHECK.same("band", x.band(0, 0, 4 * k + 3), 0x40000000);
        }
        x.letter(0, 1);
        CHECK.same("OUT isn't THE LETTER", x.out(0), 0x3f);
        CHECK.yes("post() anew", x.post());
        CHECK.yes("unpack()", x.unpack());
        CHECK.bits("the newer one", x.band(0, 0, 15), 1f);
    }

    static void promise39_notSixtyEight() {
        CHECK.says("false if OUT has not 68 bytes.");
        ColourHouse x = new ColourHouse();
        x.bands(0, 1, 2, 3, 4);
        x.measure(0, 0, 0);
        CHECK.no("post() of nothing", x.post());
        CHECK.same("tells no trouble", x.trouble(), 3);
        x.pack(1, 0);
        CHECK.no("post() behind a pack() that was NONE", x.post());
        CHECK.denied("THE LETTER stays", x, x.unpack(), 5);
        TWINS.refused(y -> {
            Bench.fullSight(y);
            y.bands(0, 1, 2, 3, 4);
            y.measure(0, 0, 0);
        }, "post()", y -> y.post() ? 1 : 0, 0, 3);
        x.pack(0, 0);
        CHECK.yes("post()", x.post());
    }

    /** Makes THE LETTER tell these words, with their SUM and so much more. */
    private static void write(ColourHouse x, int[] words, int more) {
        int sum = 17;
        for (int k = 0; k < 64; k++) {
            int b = words[k / 4] >>> (24 - 8 * (k % 4)) & 255;
            x.letter(k, b);
            sum = sum * 31 + b;
        }
        for (int k = 0; k < 4; k++) {
            x.letter(64 + k, sum + more >>> (24 - 8 * k) & 255);
        }
    }

    private static int[] flatWords() {
        int[] words = new int[16];
        java.util.Arrays.fill(words, 0x3f000000);
        return words;
    }

    static void promise40_rowBecomes() {
        CHECK.says("THE ROW becomes what THE LETTER tells: true");
        int[] taken = {0, 1, 0x007fffff, 0x00800000, 0x3fffffff, 0x40000000};
        for (int bits : taken) {
            ColourHouse x = new ColourHouse();
            int[] words = flatWords();
            words[0] = bits;
            words[15] = bits;
            write(x, words, 0);
            x.measure(0, 0, 0);
            CHECK.yes("unpack()", x.unpack());
            CHECK.same("trouble()", x.trouble(), 0);
            for (int k = 0; k < 16; k++) {
                CHECK.same("band(0, 0, " + k + ")", x.band(0, 0, k), words[k]);
            }
            CHECK.same("no act", x.count(7), 0);
        }
    }

    static void promise40_anotherSum() {
        CHECK.says("false, trouble 5 if its SUM is another one");
        int[] more = {1, -1, 256, 65536, 16777216, LEAST};
        for (int m : more) {
            TWINS.refusedOnRich(x -> write(x, flatWords(), m), "unpack() of a SUM and " + m,
                x -> x.unpack() ? 1 : 0, 0, 5);
        }
        int[] words = flatWords();
        words[3] = -1;
        TWINS.refusedOnRich(x -> write(x, words, 1), "unpack() of no FLOAT and another SUM",
            x -> x.unpack() ? 1 : 0, 0, 5);
        for (int k = 0; k < 68; k++) {
            ColourHouse x = new ColourHouse();
            x.bands(0, 1, 2, 3, 4);
            x.pack(0, 0);
            x.post();
            x.letter(k, x.out(k) ^ 1);
            CHECK.denied("another byte " + k, x, x.unpack(), 5);
            x.letter(k, x.out(k));
            CHECK.yes("its own byte " + k, x.unpack());
        }
    }

    static void promise40_floatNotTaken() {
        CHECK.says("else 3 if a FLOAT isn't taken.");
        int[] wrong = {0x40000001, LEAST, 0x80000001, -1, 0x7f800000, 0x7fc00000, 0xbf800000, GREATEST};
        for (int w : wrong) {
            int[] words = flatWords();
            words[w == -1 ? 15 : w == LEAST ? 0 : 7] = w;
            TWINS.refusedOnRich(x -> write(x, words, 0), "unpack() of a FLOAT " + w, x -> x.unpack() ? 1 : 0, 0, 3);
        }
        for (int k = 0; k < 16; k++) {
            ColourHouse x = new ColourHouse();
            x.bands(0, 1, 2, 3, 4);
            int[] words = flatWords();
            words[k] = 0x40000001;
            write(x, words, 0);
            CHECK.denied("FLOAT " + k, x, x.unpack(), 3);
            CHECK.same("THE ROW stays", x.band(0, 0, 0), 1);
        }
    }

    static void promise42_itWasnt() {
        CHECK.says("Why the latest call that may be refused (all that tell a trouble) was: 0 it wasn't");
        ColourHouse x = new ColourHouse();
        CHECK.same("of a new object", x.trouble(), 0);
        Bench.rich(x);
        CHECK.same("behind a refused one", x.trouble(), 4);
        Twins.Call[] accepted = {y -> y.chip(), y -> y.cloth(), y -> y.dye(0), y -> y.strength(0, 300),
            y -> y.cents(0, 1) ? 1 : 0, y -> y.pick(1, 0) ? 1 : 0, y -> y.blend(0, 1, 1, 2), y -> y.part(false, 0, 1),
            y -> y.predict(0) ? 1 : 0, y -> y.light(0, 0, 1) ? 1 : 0, y -> y.eye(0, 0, 0, 1) ? 1 : 0,
            y -> y.measure(1, 1, 1) ? 1 : 0, y -> y.solid(0, 0, 0, 0, 1, 1, 1), y -> y.recipe(0, 0, 0, 0, 1, 1, 1, 1),
            y -> y.lot(0, 1, 1, 1), y -> y.batch(0, 1), y -> y.weigh(0, 0, 1), y -> y.correct(0, 0, 0, 0, 1, 1),
            y -> y.measured(0) ? 1 : 0, y -> y.remeasure(0) ? 1 : 0, y -> y.post() && y.unpack() ? 1 : 0};
        for (int n = 0; n < accepted.length; n++) {
            x.weigh(0, 0, 100000);
            CHECK.same("behind a refused one", x.trouble(), 4);
            CHECK.yes("accepted " + n, accepted[n].on(x) != NONE);
            CHECK.same("trouble() behind accepted " + n, x.trouble(), 0);
        }
    }

    static void promise42_callsThatTellNone() {
        CHECK.says("(all that tell a trouble)");
        ColourHouse x = new ColourHouse();
        Bench.rich(x);
        Twins.Call[] asked = {y -> y.bands(0, 1, 1, 1, 1) ? 1 : 0, y -> y.bands(4, 1, 1, 1, 1) ? 1 : 0,
            y -> y.band(0, 0, 0), y -> y.band(9, 9, 9), y -> y.colour(1, 0, 0, 0, 0), y -> y.colour(9, 9, 9, 9, 9),
            y -> y.distance(0, 1, 0, 0), y -> y.distance(9, 9, 9, 9), y -> y.nearest(0, 0, 0), y -> y.nearest(9, 9, 9),
            y -> y.parting(0, 1, 0), y -> y.parting(9, 9, 9), y -> y.inside(0, 0), y -> y.inside(9, 9),
            y -> y.recipeOf(0), y -> y.recipeOf(9), y -> y.recipeBy(0), y -> y.recipeBy(9), y -> y.addition(0),
            y -> y.addition(9), y -> y.passes(0, 0), y -> y.passes(9, 9), y -> y.told(0, 0), y -> y.told(99, 99),
            y -> y.weighed(0, 0, true), y -> y.weighed(9, 9, true), y -> y.drift(0), y -> y.drift(99),
            y -> y.pack(0, 0), y -> y.pack(9, 9), y -> outOrThrows(y, 0), y -> outOrThrows(y, 99),
            y -> y.letter(0, 0) ? 1 : 0, y -> y.letter(99, 0) ? 1 : 0, y -> y.post() ? 1 : 0, y -> y.count(0),
            y -> y.count(99), y -> y.trouble(), y -> y.undo()};
        for (int n = 0; n < asked.length; n++) {
            asked[n].on(x);
            CHECK.same("trouble() behind asked " + n, x.trouble(), KEPT);
        }
        ColourHouse empty = new ColourHouse();
        empty.measure(0, 0, 0);
        CHECK.same("undo() of nothing", empty.undo(), 0);
        CHECK.same("trouble() behind it", empty.trouble(), 3);
        CHECK.no("post() of nothing", empty.post());
        CHECK.same("trouble() behind it", empty.trouble(), 3);
    }

    static void promise42_each() {
        CHECK.says("1 no room, 2 there is none such, 3 a number, 4 the stock, 5 the SUM.");
        ColourHouse x = new ColourHouse();
        x.dye(0);
        CHECK.same("there is none such", x.trouble(), 2);
        x.measure(0, 0, 0);
        CHECK.same("a number", x.trouble(), 3);
        x.unpack();
        CHECK.same("the SUM", x.trouble(), 5);
        for (int i = 0; i < 9; i++) {
            x.cloth();
        }
        CHECK.same("no room", x.trouble(), 1);
        x.dye(0);
        x.lot(0, 1, 1, 999);
        x.batch(0, 1);
        CHECK.same("it wasn't", x.trouble(), 0);
        x.weigh(0, 0, 1);
        CHECK.same("the stock", x.trouble(), 4);
        CHECK.same("asked again", x.trouble(), 4);
    }

    static void promise43_each() {
        CHECK.says("0 CHIPS, 1 CLOTHS, 2 DYES, 3 SOLIDS, 4 LOTS, 5 BATCHES, 6 PARTS, 7 acts that can be taken back, "
            + "8 bytes of OUT.");
        ColourHouse x = new ColourHouse();
        int[] most = {40, 8, 12, 12, 20, 12, 6, 60, 68};
        for (int what = 0; what <= 8; what++) {
            CHECK.same("count(" + what + ") of nothing", x.count(what), 0);
        }
        for (int n = 0; n <= 40; n++) {
            x.chip();
            x.cloth();
            x.dye(0);
            x.solid(0, 0, 0, 0, 1, 1, 1);
            x.lot(0, 1, 1, 1);
            x.batch(0, 1);
            x.part(false, 0, 1);
            CHECK.same("count(0) then", x.count(0), Math.min(n + 1, 40));
            CHECK.same("count(4) then", x.count(4), Math.min(n + 1, 20));
        }
        x.pack(0, 0);
        for (int what = 0; what <= 8; what++) {
            CHECK.same("count(" + what + ") of all", x.count(what), most[what]);
        }
        x.undo();
        CHECK.same("count(7) behind undo()", x.count(7), 59);
        x.predict(0);
        CHECK.same("count(6) behind predict()", x.count(6), 0);
    }

    static void promise43_others() {
        CHECK.says("NONE for others.");
        int[] none = {-1, 9, LEAST, GREATEST};
        for (int what : none) {
            TWINS.refusedOnRich("count(" + what + ")", x -> x.count(what), NONE, KEPT);
        }
    }
}
