/** Promises 11 and 12, and the quotients behind them. */
final class MixingTests {
    private static final Check CHECK = new Check();

    public static void main(String[] args) {
        part();
        predict();
        bareCloth();
        dyeBetweenStrengths();
        ownBelowNothing();
        lotAsPart();
        partsInOrder();
        partThatIsGone();
        CHECK.end("MixingTests");
    }

    /** Cloth 0 of 0.9, dye 0 on it with strengths 0.3 at 100 and 0.1 at 300, dye 1 without. */
    private static ColourHouse bench() {
        ColourHouse x = new ColourHouse();
        Bench.flatCloth(x, 0.9f);
        x.dye(0);
        x.dye(0);
        Bench.flatStrength(x, 0, 100, 0.3f);
        Bench.flatStrength(x, 0, 300, 0.1f);
        return x;
    }

    private static void part() {
        CHECK.promise("11 part");
        ColourHouse x = bench();
        CHECK.refused("no such dye", x, x.part(false, 2, -1), 2);
        CHECK.refused("no such dye", x, x.part(false, -1, 1), 2);
        CHECK.refused("no such lot", x, x.part(true, 0, 1), 2);
        CHECK.refused("grams", x, x.part(false, 0, -1), 3);
        CHECK.refused("grams", x, x.part(false, 0, 1000001), 3);
        x.lot(0, 1, 1, 1);
        x.cents(9, 0);
        CHECK.same("part 1", x.part(true, 0, 1000000), 1);
        CHECK.same("trouble()", x.trouble(), 0);
        for (int n = 2; n <= 6; n++) {
            CHECK.same("part n", x.part(false, 1, 0), n);
            CHECK.same("count(6)", x.count(6), n);
        }
        CHECK.refused("a seventh", x, x.part(false, 0, 1), 1);
        CHECK.refused("a seventh, a number", x, x.part(false, 0, -1), 3);
        int acts = x.count(7);
        x.undo();
        CHECK.same("parts aren't taken back", x.count(6), 6);
        CHECK.same("nor are they acts", x.count(7), acts - 1);
    }

    private static void predict() {
        CHECK.promise("12 predict");
        ColourHouse x = bench();
        x.part(false, 0, 100);
        CHECK.denied("predict(1)", x, x.predict(1), 2);
        CHECK.denied("predict(-1)", x, x.predict(-1), 2);
        CHECK.same("the parts stay", x.count(6), 1);
        CHECK.same("no prediction", x.band(3, 0, 0), 0);
        CHECK.yes("predict(0)", x.predict(0));
        CHECK.same("trouble()", x.trouble(), 0);
        CHECK.same("no parts then", x.count(6), 0);
        CHECK.bits("the strength itself", x.band(3, 0, 0), 0.3f);
        CHECK.yes("predict(0)", x.predict(0));
        CHECK.bits("without parts the cloth", x.band(3, 0, 0), 0.9f);
    }

    private static void bareCloth() {
        ColourHouse x = new ColourHouse();
        float[] bands = {0, 0.0004f, 0.0006f, 2, 1, 1.5f, 0.33f};
        for (int i = 0; i < bands.length; i++) {
            Bench.flatCloth(x, bands[i]);
            x.predict(i);
            CHECK.bits("cloth of " + bands[i], x.band(3, 0, 9), Bench.ofQuotient(Bench.quotient(bands[i])));
        }
    }

    private static void dyeBetweenStrengths() {
        ColourHouse x = bench();
        double cloth = Bench.quotient(0.9f);
        double first = Bench.quotient(0.3f) - cloth;
        double second = Bench.quotient(0.1f) - cloth;
        int[] grams = {0, 1, 50, 99, 100, 101, 200, 299, 300, 301, 600, 1000000};
        for (int g : grams) {
            double more = g == 0 ? 0 : g <= 100 ? first * (g / 100.0)
                    : g <= 300 ? first + (second - first) * ((g - 100.0) / 200.0) : second * (g / 300.0);
            x.part(false, 0, g);
            x.predict(0);
            CHECK.bits(g + " grams", x.band(3, 0, 4), Bench.ofQuotient(cloth + more));
        }
        x.part(false, 1, 500);
        x.predict(0);
        CHECK.bits("a dye without strengths", x.band(3, 0, 4), Bench.ofQuotient(cloth));
    }

    private static void ownBelowNothing() {
        ColourHouse x = new ColourHouse();
        Bench.flatCloth(x, 0.5f);
        x.dye(0);
        Bench.flatStrength(x, 0, 10, 0.75f);
        x.part(false, 0, 1000);
        x.predict(0);
        CHECK.bits("a lighter strength adds nothing", x.band(3, 0, 0), Bench.ofQuotient(Bench.quotient(0.5f)));
    }

    private static void lotAsPart() {
        ColourHouse x = bench();
        x.lot(0, 3, 7, 1);
        double cloth = Bench.quotient(0.9f);
        double first = Bench.quotient(0.3f) - cloth;
        x.part(true, 0, 100);
        x.predict(0);
        double grams = 100.0 * 3 / 7;
        CHECK.bits("a lot is worth its share", x.band(3, 0, 0), Bench.ofQuotient(cloth + first * (grams / 100)));
        x.part(true, 0, 0);
        x.predict(0);
        CHECK.bits("none of a lot", x.band(3, 0, 0), Bench.ofQuotient(cloth));
    }

    private static void partsInOrder() {
        ColourHouse x = bench();
        x.dye(0);
        Bench.flatStrength(x, 2, 7, 0.41f);
        double cloth = Bench.quotient(0.9f);
        double own0 = (Bench.quotient(0.3f) - cloth) * (33 / 100.0);
        double own2 = (Bench.quotient(0.41f) - cloth) * (5 / 7.0);
        x.part(false, 2, 5);
        x.part(false, 0, 33);
        x.part(false, 2, 5);
        x.predict(0);
        CHECK.bits("one behind the other", x.band(3, 0, 0), Bench.ofQuotient(cloth + own2 + own0 + own2));
    }

    private static void partThatIsGone() {
        ColourHouse x = bench();
        x.dye(0);
        Bench.flatStrength(x, 2, 10, 0.2f);
        x.lot(2, 1, 1, 5);
        x.part(false, 2, 10);
        x.part(true, 0, 10);
        x.undo();
        x.undo();
        x.undo();
        CHECK.same("parts stay", x.count(6), 2);
        CHECK.yes("predict(0)", x.predict(0));
        CHECK.bits("what is gone adds nothing", x.band(3, 0, 0), Bench.ofQuotient(Bench.quotient(0.9f)));
    }
}
