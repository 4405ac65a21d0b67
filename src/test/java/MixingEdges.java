/** Promises 11 and 12, and the quotients, the PARTS and the PREDICTION of term II. */
final class MixingEdges {
    private static final Check CHECK = EdgeTests.check();
    private static final Twins TWINS = new Twins(CHECK);
    private static final int NONE = ColourHouse.NONE;
    private static final int LEAST = Integer.MIN_VALUE;
    private static final int GREATEST = Integer.MAX_VALUE;

    private MixingEdges() {
    }

    /** Cloth 0 of 0.9 and dye 0 on it: 0.3 at 100 grams, 0.2 at 300, 0.1 at 1,000. */
    private static ColourHouse bench() {
        ColourHouse x = new ColourHouse();
        Bench.flatCloth(x, 0.9f);
        x.dye(0);
        Bench.flatStrength(x, 0, 100, 0.3f);
        Bench.flatStrength(x, 0, 300, 0.2f);
        Bench.flatStrength(x, 0, 1000, 0.1f);
        return x;
    }

    private static double own(float band) {
        return Bench.quotient(band) - Bench.quotient(0.9f);
    }

    /** That so many grams of dye 0 add so much to the quotient of cloth 0. */
    private static void adds(ColourHouse x, int grams, double more) {
        x.part(false, 0, grams);
        x.predict(0);
        CHECK.bits("of " + grams + " grams", x.band(3, 0, 7), Bench.ofQuotient(Bench.quotient(0.9f) + more));
    }

    static void term2_greaterOf() {
        CHECK.says("with s the greater one of r and 0.0005");
        int least = Bench.bits(0.0005f);
        int[][] bandAndDue = {{0, least}, {1, least}, {least - 1, least}, {least, least}, {least + 1, least + 1}};
        ColourHouse x = new ColourHouse();
        for (int i = 0; i < bandAndDue.length; i++) {
            x.bands(0, bandAndDue[i][0], 0, 0, 0);
            x.cloth();
            x.predict(i);
            CHECK.same("of a band with the bits " + bandAndDue[i][0], x.band(3, 0, 0), bandAndDue[i][1]);
        }
        Bench.flatCloth(x, 2);
        x.predict(bandAndDue.length);
        CHECK.bits("of the greatest band", x.band(3, 0, 0), 0.5f);
        Bench.flatCloth(x, 1);
        x.predict(bandAndDue.length + 1);
        CHECK.bits("of 1, without a quotient", x.band(3, 0, 0), 1f);
    }

    static void term2_ownBelowZero() {
        CHECK.says("A STRENGTH's own: that of its band less that of its DYE's cloth's band, but 0 if that is below 0.");
        ColourHouse x = new ColourHouse();
        Bench.flatCloth(x, 0.5f);
        x.dye(0);
        float darker = Math.nextDown(0.5f);
        Bench.four(x, 0.75f, 0.5f, darker, 0.25f);
        x.strength(0, 1);
        x.part(false, 0, 1000000);
        x.predict(0);
        double cloth = Bench.quotient(0.5f);
        CHECK.bits("of a lighter band", x.band(3, 0, 0), Bench.ofQuotient(cloth));
        CHECK.bits("of the cloth's own band", x.band(3, 0, 1), Bench.ofQuotient(cloth));
        float due = Bench.ofQuotient(cloth + (Bench.quotient(darker) - cloth) * 1000000.0);
        CHECK.yes("a darker band tells", due != Bench.ofQuotient(cloth));
        CHECK.bits("of a band a bit darker", x.band(3, 0, 2), due);
        CHECK.bits("of a darker band", x.band(3, 0, 3),
            Bench.ofQuotient(cloth + (Bench.quotient(0.25f) - cloth) * 1000000.0));
    }

    static void term2_atTheFirst() {
        CHECK.says("below or at the first STRENGTH's grams a: its own * (g / a)");
        ColourHouse x = bench();
        int[] grams = {1, 33, 99, 100};
        for (int g : grams) {
            adds(x, g, own(0.3f) * (g / 100.0));
        }
    }

    static void term2_betweenTwo() {
        CHECK.says("between two, a below g and g at or below b: "
            + "own of a + (own of b - own of a) * ((g - a) / (b - a))");
        ColourHouse x = bench();
        int[] first = {101, 200, 299, 300};
        for (int g : first) {
            adds(x, g, own(0.3f) + (own(0.2f) - own(0.3f)) * ((g - 100.0) / 200.0));
        }
        int[] second = {301, 650, 999, 1000};
        for (int g : second) {
            adds(x, g, own(0.2f) + (own(0.1f) - own(0.2f)) * ((g - 300.0) / 700.0));
        }
    }

    /** What is hardly darker than the cloth gets lost beside what is black, so that the formula tells at its ends. */
    static void term2_atTheLast() {
        CHECK.says("g at or below b: own of a + (own of b - own of a) * ((g - a) / (b - a))");
        double black = Bench.quotient(0);
        double pale = Bench.quotient(Math.nextDown(1f));
        double due = black + (pale - black) * 1.0;
        CHECK.yes("that tells", Bench.ofQuotient(due) != Bench.ofQuotient(pale));
        ColourHouse x = new ColourHouse();
        Bench.flatCloth(x, 1);
        x.dye(0);
        Bench.flatStrength(x, 0, 10, 0);
        Bench.flatStrength(x, 0, 20, Math.nextDown(1f));
        x.part(false, 0, 20);
        x.predict(0);
        CHECK.bits("at the last one", x.band(3, 0, 0), Bench.ofQuotient(due));
        x.part(false, 0, 10);
        x.predict(0);
        CHECK.bits("at the first one", x.band(3, 0, 0), Bench.ofQuotient(black));
        Bench.flatStrength(x, 0, 30, 0.5f);
        x.part(false, 0, 20);
        x.predict(0);
        CHECK.bits("at the second of three", x.band(3, 0, 0), Bench.ofQuotient(due));
    }

    static void term2_aboveTheLast() {
        CHECK.says("above the last one: its own * (g / its grams).");
        ColourHouse x = bench();
        int[] grams = {1001, 5000, 1000000};
        for (int g : grams) {
            adds(x, g, own(0.1f) * (g / 1000.0));
        }
        x.undo();
        adds(x, 301, own(0.2f) * (301 / 300.0));
        x.undo();
        adds(x, 101, own(0.3f) * (101 / 100.0));
    }

    static void term2_withoutStrengths() {
        CHECK.says("Of a DYE without STRENGTHS, and at 0: 0.");
        ColourHouse x = bench();
        adds(x, 0, 0.0);
        x.dye(0);
        x.part(false, 1, 1000000);
        adds(x, 0, 0.0);
        x.lot(1, 1000, 1, 1);
        x.part(true, 0, 1000000);
        adds(x, 0, 0.0);
    }

    /** A STRENGTH's own is reckoned from its DYE's cloth, whatever cloth is mixed on. */
    static void term2_onAnotherCloth() {
        CHECK.says("PREDICTION on a cloth: of each band q, the cloth's QUOTIENT, then q + that of each part in order");
        ColourHouse x = bench();
        Bench.flatCloth(x, 0.4f);
        x.part(false, 0, 100);
        x.part(false, 0, 300);
        x.predict(1);
        double due = Bench.quotient(0.4f) + own(0.3f) + (own(0.3f) + (own(0.2f) - own(0.3f)) * 1.0);
        CHECK.bits("on cloth 1", x.band(3, 0, 15), Bench.ofQuotient(due));
    }

    static void term2_gramsOfParts() {
        CHECK.says("PARTS: a dye or a lot, and whole grams (0 .. 1,000,000), in order.");
        ColourHouse x = bench();
        CHECK.refused("part(false, 0, -1)", x, x.part(false, 0, -1), 3);
        CHECK.same("part(false, 0, 0)", x.part(false, 0, 0), 1);
        CHECK.refused("part(false, 0, 1000001)", x, x.part(false, 0, 1000001), 3);
        CHECK.same("part(false, 0, 1000000)", x.part(false, 0, 1000000), 2);
        x.lot(0, 1, 1, 1);
        CHECK.refused("part(true, 0, -1)", x, x.part(true, 0, -1), 3);
        CHECK.same("part(true, 0, 0)", x.part(true, 0, 0), 3);
        CHECK.refused("part(true, 0, 1000001)", x, x.part(true, 0, 1000001), 3);
        CHECK.same("part(true, 0, 1000000)", x.part(true, 0, 1000000), 4);
        x.predict(0);
        double due = Bench.quotient(0.9f) + own(0.1f) * 1000.0 + own(0.1f) * 1000.0;
        CHECK.bits("more than its stock is mixed too", x.band(3, 0, 0), Bench.ofQuotient(due));
    }

    static void term2_gramsOfLots() {
        CHECK.says("(a lot's grams g as g * up / down, as doubles, of its DYE)");
        ColourHouse x = bench();
        x.dye(0);
        int[][] shares = {{1, 1}, {1000, 1}, {1, 1000}, {1000, 1000}, {2, 3}, {999, 7}};
        int[] grams = {1, 150, 299, 1000000};
        for (int n = 0; n < shares.length; n++) {
            x.lot(0, shares[n][0], shares[n][1], 1);
            for (int g : grams) {
                double worth = (double) g * shares[n][0] / shares[n][1];
                double more = worth <= 100 ? own(0.3f) * (worth / 100)
                    : worth <= 300 ? own(0.3f) + (own(0.2f) - own(0.3f)) * ((worth - 100) / 200)
                    : worth <= 1000 ? own(0.2f) + (own(0.1f) - own(0.2f)) * ((worth - 300) / 700)
                    : own(0.1f) * (worth / 1000);
                x.part(true, n, g);
                x.predict(0);
                CHECK.bits(g + " grams of a lot of " + shares[n][0] + " / " + shares[n][1], x.band(3, 0, 0),
                    Bench.ofQuotient(Bench.quotient(0.9f) + more));
            }
        }
    }

    /** Of much dye the rounded root comes out above 1 + q, now and then. */
    static void term2_bandBelowZero() {
        CHECK.says("the band is 1 + q - sqrt(q * q + 2 * q), 0 if that is below 0, made a float.");
        ColourHouse x = new ColourHouse();
        Bench.flatCloth(x, 1);
        x.dye(0);
        Bench.flatStrength(x, 0, 1, 0);
        double own = Bench.quotient(0);
        int below = 0;
        int above = 0;
        for (int g = 1000000; g > 900000 && below + above < 80; g -= 7) {
            double q = own * g;
            double band = 1 + q - Math.sqrt(q * q + 2 * q);
            boolean isBelow = band < 0;
            if (isBelow ? below < 40 : above < 40) {
                below += isBelow ? 1 : 0;
                above += isBelow ? 0 : 1;
                x.part(false, 0, g);
                x.predict(0);
                CHECK.bits("the band of " + g + " grams", x.band(3, 0, 0), isBelow ? 0f : (float) band);
            }
        }
        CHECK.same("below 0", below, 40);
        CHECK.same("not below 0", above, 40);
    }

    static void term2_partThatIsNotThere() {
        CHECK.says("(A PART whose DYE or LOT isn't there then adds nothing.)");
        ColourHouse x = bench();
        x.dye(0);
        Bench.flatStrength(x, 1, 10, 0.2f);
        x.lot(0, 1, 1, 1);
        x.part(true, 0, 10);
        x.part(false, 1, 10);
        x.part(false, 0, 50);
        x.undo();
        x.undo();
        x.undo();
        CHECK.same("dye 1 and the lot are taken back", x.count(2) + x.count(4), 1);
        CHECK.same("the PARTS aren't", x.count(6), 3);
        CHECK.yes("predict(0)", x.predict(0));
        CHECK.bits("what is left", x.band(3, 0, 0), Bench.ofQuotient(Bench.quotient(0.9f) + own(0.3f) * 0.5));
        x.part(false, 0, 50);
        for (int n = 0; n < 4; n++) {
            x.undo();
        }
        CHECK.yes("predict(0)", x.predict(0));
        CHECK.bits("nothing", x.band(3, 0, 0), Bench.ofQuotient(Bench.quotient(0.9f)));
    }

    static void promise11_comesBehind() {
        CHECK.says("A PART comes behind those there are: a DYE, or a LOT, of so many grams (0 .. 1,000,000): how many");
        ColourHouse x = bench();
        x.lot(0, 1, 1, 1);
        int acts = x.count(7);
        for (int n = 1; n <= 6; n++) {
            x.measure(0, 0, 0);
            CHECK.same("part " + n, x.part(n % 2 == 0, 0, n < 4 ? 0 : 1000000), n);
            CHECK.same("trouble()", x.trouble(), 0);
            CHECK.same("count(6)", x.count(6), n);
        }
        CHECK.same("no act", x.count(7), acts);
    }

    static void promise11_noSuchDyeOrLot() {
        CHECK.says("NONE, trouble 2 if there is no such DYE, LOT");
        int[] none = {-1, 2, 12, 20, LEAST, GREATEST};
        for (int i : none) {
            TWINS.refusedOnRich("part(false, " + i + ", 1)", x -> x.part(false, i, 1), NONE, 2);
            TWINS.refusedOnRich("part(true, " + i + ", 1)", x -> x.part(true, i, 1), NONE, 2);
        }
        TWINS.refusedOnRich("part(true, 2, -1)", x -> x.part(true, 2, -1), NONE, 2);
        TWINS.refusedOnRich(MixingEdges::fillParts, "part(false, 2, 1) with six", x -> x.part(false, 2, 1), NONE, 2);
        ColourHouse x = bench();
        CHECK.refused("a lot without lots, where there is a dye", x, x.part(true, 0, 1), 2);
        x.lot(0, 1, 1, 1);
        x.lot(0, 1, 1, 1);
        CHECK.refused("a dye of a number that a lot has", x, x.part(false, 1, 1), 2);
        CHECK.same("that lot", x.part(true, 1, 1), 1);
    }

    private static void fillParts(ColourHouse x) {
        for (int n = x.count(6); n < 6; n++) {
            x.part(false, 0, 5);
        }
    }

    static void promise11_otherGrams() {
        CHECK.says("else 3");
        int[] wrong = {-1, 1000001, LEAST, GREATEST};
        for (int g : wrong) {
            TWINS.refusedOnRich("part(false, 1, " + g + ")", x -> x.part(false, 1, g), NONE, 3);
            TWINS.refusedOnRich("part(true, 1, " + g + ")", x -> x.part(true, 1, g), NONE, 3);
            TWINS.refusedOnRich(MixingEdges::fillParts, "part(false, 1, " + g + ") with six",
                x -> x.part(false, 1, g), NONE, 3);
        }
    }

    static void promise11_ifThereAreSix() {
        CHECK.says("else 1 if there are 6.");
        ColourHouse x = bench();
        for (int n = 0; n < 5; n++) {
            x.part(false, 0, 1);
        }
        CHECK.same("the sixth", x.part(false, 0, 1), 6);
        CHECK.same("its trouble()", x.trouble(), 0);
        CHECK.refused("the seventh", x, x.part(false, 0, 0), 1);
        TWINS.refusedOnRich(MixingEdges::fillParts, "part(false, 1, 0)", y -> y.part(false, 1, 0), NONE, 1);
        TWINS.refusedOnRich(MixingEdges::fillParts, "part(true, 1, 1000000)", y -> y.part(true, 1, 1000000), NONE, 1);
        x.predict(0);
        CHECK.same("there is room behind predict()", x.part(false, 0, 1), 1);
    }

    static void promise11_notTakenBack() {
        CHECK.says("(PARTS aren't taken back.)");
        ColourHouse x = bench();
        x.part(false, 0, 100);
        int acts = x.count(7);
        CHECK.same("undo()", x.undo(), 1);
        CHECK.same("an act ahead of it", x.count(7), acts - 1);
        CHECK.same("count(6)", x.count(6), 1);
        CHECK.same("a STRENGTH was taken back", x.told(0, 10), 2);
        x.predict(0);
        CHECK.bits("the PART was mixed", x.band(3, 0, 0), Bench.ofQuotient(Bench.quotient(0.9f) + own(0.3f)));
        CHECK.same("undo()", x.undo(), 1);
        CHECK.same("nor do they come back", x.count(6), 0);
    }

    static void promise12_noneThen() {
        CHECK.says("The PREDICTION of a CLOTH with the PARTS (there are none then): true");
        ColourHouse x = bench();
        CHECK.yes("predict(0) without PARTS", x.predict(0));
        CHECK.same("trouble()", x.trouble(), 0);
        CHECK.bits("the cloth", x.band(3, 0, 0), Bench.ofQuotient(Bench.quotient(0.9f)));
        for (int n = 0; n < 6; n++) {
            x.part(false, 0, 100);
        }
        x.measure(0, 0, 0);
        CHECK.yes("predict(0) with six", x.predict(0));
        CHECK.same("trouble()", x.trouble(), 0);
        CHECK.same("count(6)", x.count(6), 0);
        double q = Bench.quotient(0.9f);
        for (int n = 0; n < 6; n++) {
            q = q + own(0.3f);
        }
        CHECK.bits("six times", x.band(3, 0, 15), Bench.ofQuotient(q));
        CHECK.yes("predict(0)", x.predict(0));
        CHECK.bits("the PARTS were mixed but once", x.band(3, 0, 15), Bench.ofQuotient(Bench.quotient(0.9f)));
        CHECK.same("no act", x.count(7), 5);
    }

    static void promise12_partsStay() {
        CHECK.says("false, trouble 2 if there is no such CLOTH (the PARTS stay).");
        int[] none = {-1, 2, 8, LEAST, GREATEST};
        for (int c : none) {
            TWINS.refusedOnRich("predict(" + c + ")", x -> x.predict(c) ? 1 : 0, 0, 2);
        }
        ColourHouse empty = new ColourHouse();
        CHECK.denied("predict(0) without cloths", empty, empty.predict(0), 2);
    }
}
