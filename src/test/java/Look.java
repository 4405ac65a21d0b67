import java.util.ArrayList;
import java.util.List;

/** What the face tells of an object: first by calls that change nothing, then by some that use it up. */
final class Look {
    /** With forty chips the drifts of all would be too many calls for one object. */
    private static final int MOST_DRIFTS = 4;

    private final ColourHouse x;
    private final List<String> seen = new ArrayList<>();

    private Look(ColourHouse x) {
        this.x = x;
    }

    /** All answers, each with its call; the object is of no use behind it. Some 300 calls on Bench.rich(). */
    static List<String> at(ColourHouse x) {
        Look look = new Look(x);
        look.counts();
        look.spectra();
        look.dyesAndLots();
        look.batches();
        look.solids();
        look.sights();
        look.results();
        look.letterAndParts();
        look.strengths();
        look.acts();
        return look.seen;
    }

    private void see(String call, long answer) {
        seen.add(call + " = " + answer);
    }

    private void counts() {
        for (int what = 0; what <= 8; what++) {
            see("count(" + what + ")", x.count(what));
        }
    }

    private void colourOf(int sort, int i) {
        see("colour(" + sort + ", " + i + ", 0, 0, 0)", x.colour(sort, i, 0, 0, 0));
    }

    /** Light 0 and eye 0 weigh each band of a bench in a way of its own, so that a colour stands for all bands. */
    private void spectra() {
        for (int k = 0; k < 16; k++) {
            see("band(0, 0, " + k + ")", x.band(0, 0, k));
        }
        for (int i = 0; i < x.count(0); i++) {
            colourOf(1, i);
            if (i < MOST_DRIFTS) {
                see("drift(" + i + ")", x.drift(i));
            }
        }
        for (int i = 0; i < x.count(1); i++) {
            colourOf(2, i);
        }
        colourOf(3, 0);
        see("band(3, 0, 0)", x.band(3, 0, 0));
        see("nearest(0, 0, 0)", x.nearest(0, 0, 0));
    }

    private void told(int i, int from, int to) {
        for (int what = from; what <= to; what++) {
            see("told(" + i + ", " + what + ")", x.told(i, what));
        }
    }

    private void dyesAndLots() {
        for (int i = 0; i < x.count(2); i++) {
            told(i, 9, 11);
        }
        for (int i = 0; i < x.count(4); i++) {
            told(i, 0, 3);
        }
    }

    private void batches() {
        for (int i = 0; i < x.count(5); i++) {
            told(i, 4, 8);
            colourOf(5, i);
            for (int k = 0; k < x.told(i, 6); k++) {
                see("weighed(" + i + ", " + k + ", false)", x.weighed(i, k, false));
                see("weighed(" + i + ", " + k + ", true)", x.weighed(i, k, true));
            }
        }
    }

    private void solids() {
        for (int i = 0; i < x.count(3); i++) {
            see("inside(" + i + ", 0)", x.inside(i, 0));
            see("inside(" + i + ", 1)", x.inside(i, 1));
        }
        see("passes(0, 0)", x.passes(0, 0));
    }

    private void sights() {
        for (int light = 0; light < 6; light++) {
            for (int eye = 0; eye < 2; eye++) {
                for (int k = 0; k < 3; k++) {
                    see("colour(0, 0, " + light + ", " + eye + ", " + k + ")", x.colour(0, 0, light, eye, k));
                }
            }
        }
        see("distance(0, 1, 0, 0)", x.distance(0, 1, 0, 0));
    }

    private void results() {
        for (int what = 0; what <= 7; what++) {
            see("recipeOf(" + what + ")", x.recipeOf(what));
        }
        see("recipeBy(0)", x.recipeBy(0));
        see("recipeBy(1)", x.recipeBy(1));
        for (int what = 0; what <= 5; what++) {
            see("addition(" + what + ")", x.addition(what));
        }
        if (x.count(8) == 68) {
            see("out(0)", x.out(0));
            for (int k = 64; k < 68; k++) {
                see("out(" + k + ")", x.out(k));
            }
        }
    }

    private void letterAndParts() {
        see("unpack()", x.unpack() ? 1 : 0);
        see("its trouble()", x.trouble());
        colourOf(0, 0);
        see("predict(0)", x.predict(0) ? 1 : 0);
        colourOf(3, 0);
    }

    private void strengths() {
        for (int i = 0; i < x.count(2); i++) {
            x.part(false, i, 70);
            x.predict(0);
            colourOf(3, 0);
        }
    }

    private void acts() {
        int taken = 0;
        while (taken <= 60 && x.undo() == 1) {
            taken++;
        }
        see("acts taken back", taken);
        for (int what = 0; what <= 5; what++) {
            see("then count(" + what + ")", x.count(what));
        }
        told(0, 0, 11);
    }
}
