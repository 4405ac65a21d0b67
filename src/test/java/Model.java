import java.util.ArrayDeque;
import java.util.ArrayList;
import java.util.List;

/** The document once more, in the plainest Java: what an act changes is copied whole ahead of it. */
final class Model {
    private static final class Dye {
        int cloth;
        int cents;
        List<Integer> grams = new ArrayList<>();
        List<float[]> spectra = new ArrayList<>();

        Dye copy() {
            Dye d = new Dye();
            d.cloth = cloth;
            d.cents = cents;
            d.grams = new ArrayList<>(grams);
            d.spectra = new ArrayList<>(spectra);
            return d;
        }
    }

    private static final class Batch {
        int cloth;
        int kilos;
        List<int[]> weighings = new ArrayList<>();
        float[] measured;

        Batch copy() {
            Batch b = new Batch();
            b.cloth = cloth;
            b.kilos = kilos;
            for (int[] w : weighings) {
                b.weighings.add(w.clone());
            }
            b.measured = measured;
            return b;
        }
    }

    private static final class Solid {
        int sort;
        int light;
        int eye;
        double[] colours;
        double[] sizes;
    }

    /** What acts change. Spectra in it are never written over, so that copies may share them. */
    private static final class State {
        List<float[]> chips = new ArrayList<>();
        List<float[]> drifts = new ArrayList<>();
        List<float[]> cloths = new ArrayList<>();
        List<Dye> dyes = new ArrayList<>();
        List<Solid> solids = new ArrayList<>();
        List<int[]> lots = new ArrayList<>();
        List<Batch> batches = new ArrayList<>();

        State copy() {
            State s = new State();
            s.chips.addAll(chips);
            s.drifts.addAll(drifts);
            s.cloths.addAll(cloths);
            for (Dye d : dyes) {
                s.dyes.add(d.copy());
            }
            s.solids.addAll(solids);
            for (int[] l : lots) {
                s.lots.add(l.clone());
            }
            for (Batch b : batches) {
                s.batches.add(b.copy());
            }
            return s;
        }
    }

    private State now = new State();
    private final ArrayDeque<State> ahead = new ArrayDeque<>();
    private final float[] row = new float[16];
    private float[] prediction;
    private final List<int[]> parts = new ArrayList<>();
    private final int[][] lights = new int[6][16];
    private final int[][][] eyes = new int[2][3][16];
    private int[] measure = {1, 1, 1};
    private int[] out = new int[0];
    private int[] letter = new int[68];
    private int trouble;
    private Result recipe;
    private Result addition;

    private static final class Result {
        int tries;
        boolean all = true;
        double distance;
        long cost;
        int[] told = new int[0];
    }

    private static boolean has(List<?> list, int i) {
        return i >= 0 && i < list.size();
    }

    private static boolean in(int x, int least, int most) {
        return x >= least && x <= most;
    }

    private int no(int why) {
        trouble = why;
        return -1;
    }

    private boolean not(int why) {
        trouble = why;
        return false;
    }

    private boolean yes() {
        trouble = 0;
        return true;
    }

    private void act() {
        trouble = 0;
        ahead.addLast(now.copy());
        if (ahead.size() > 60) {
            ahead.removeFirst();
        }
    }

    boolean bands(int k, int a, int b, int c, int d) {
        int[] all = {a, b, c, d};
        for (int bits : all) {
            float f = Float.intBitsToFloat(bits);
            if (bits != 0 && !(f > 0 && f <= 2)) {
                return false;
            }
        }
        if (!in(k, 0, 3)) {
            return false;
        }
        for (int n = 0; n < 4; n++) {
            row[4 * k + n] = Float.intBitsToFloat(all[n]);
        }
        return true;
    }

    int chip() {
        if (now.chips.size() == 40) {
            return no(1);
        }
        act();
        now.chips.add(row.clone());
        now.drifts.add(new float[16]);
        return now.chips.size() - 1;
    }

    int cloth() {
        if (now.cloths.size() == 8) {
            return no(1);
        }
        act();
        now.cloths.add(row.clone());
        return now.cloths.size() - 1;
    }

    int dye(int cloth) {
        if (!has(now.cloths, cloth)) {
            return no(2);
        }
        if (now.dyes.size() == 12) {
            return no(1);
        }
        act();
        Dye d = new Dye();
        d.cloth = cloth;
        now.dyes.add(d);
        return now.dyes.size() - 1;
    }

    int strength(int dye, int grams) {
        if (!has(now.dyes, dye)) {
            return no(2);
        }
        Dye d = now.dyes.get(dye);
        int n = d.grams.size();
        if (!in(grams, 1, 100000) || (n > 0 && grams <= d.grams.get(n - 1))) {
            return no(3);
        }
        if (n == 6) {
            return no(1);
        }
        act();
        d.grams.add(grams);
        d.spectra.add(row.clone());
        return n + 1;
    }

    boolean cents(int dye, int c) {
        if (!has(now.dyes, dye)) {
            return not(2);
        }
        if (!in(c, 0, 100000)) {
            return not(3);
        }
        act();
        now.dyes.get(dye).cents = c;
        return true;
    }

    private float[] spectrum(int sort, int i) {
        if (sort == 0) {
            return row;
        }
        if (sort == 1 && has(now.chips, i)) {
            return now.chips.get(i);
        }
        if (sort == 2 && has(now.cloths, i)) {
            return now.cloths.get(i);
        }
        if (sort == 3) {
            return prediction;
        }
        if (sort == 5 && has(now.batches, i)) {
            return now.batches.get(i).measured;
        }
        return null;
    }

    int band(int sort, int i, int k) {
        float[] s = sort == 4 ? has(now.chips, i) ? now.drifts.get(i) : null : spectrum(sort, i);
        return s == null || !in(k, 0, 15) ? 0 : Float.floatToRawIntBits(s[k]);
    }

    boolean pick(int sort, int i) {
        float[] s = spectrum(sort, i);
        if (s == null || sort == 0) {
            return not(2);
        }
        System.arraycopy(s, 0, row, 0, 16);
        return yes();
    }

    int blend(int a, int b, int up, int down) {
        if (!has(now.chips, a) || !has(now.chips, b)) {
            return no(2);
        }
        if (!in(down, 1, 1000) || up < 0 || up > down) {
            return no(3);
        }
        if (now.chips.size() == 40) {
            return no(1);
        }
        act();
        float[] s = new float[16];
        for (int k = 0; k < 16; k++) {
            double first = now.chips.get(a)[k];
            double second = now.chips.get(b)[k];
            s[k] = (float) ((first * (double) up + second * (double) (down - up)) / (double) down);
        }
        now.chips.add(s);
        now.drifts.add(new float[16]);
        return now.chips.size() - 1;
    }

    int part(boolean lot, int which, int grams) {
        if (!has(lot ? now.lots : now.dyes, which)) {
            return no(2);
        }
        if (!in(grams, 0, 1000000)) {
            return no(3);
        }
        if (parts.size() == 6) {
            return no(1);
        }
        trouble = 0;
        parts.add(new int[] {lot ? 1 : 0, which, grams});
        return parts.size();
    }

    private static double quotient(float band) {
        double s = Math.max((double) band, 0.0005);
        double bare = 1.0 - s;
        return bare * bare / (2.0 * s);
    }

    private double own(Dye d, int strength, int k) {
        double more = quotient(d.spectra.get(strength)[k]) - quotient(now.cloths.get(d.cloth)[k]);
        return more < 0 ? 0 : more;
    }

    private double quotientOfDye(int dye, double g, int k) {
        if (!has(now.dyes, dye) || g == 0) {
            return 0;
        }
        Dye d = now.dyes.get(dye);
        int n = d.grams.size();
        if (n == 0) {
            return 0;
        }
        if (g <= d.grams.get(0)) {
            return own(d, 0, k) * (g / d.grams.get(0));
        }
        for (int s = 1; s < n; s++) {
            double a = d.grams.get(s - 1);
            double b = d.grams.get(s);
            if (a < g && g <= b) {
                return own(d, s - 1, k) + (own(d, s, k) - own(d, s - 1, k)) * ((g - a) / (b - a));
            }
        }
        return own(d, n - 1, k) * (g / d.grams.get(n - 1));
    }

    /** Parts as {1 for a lot, its number, grams}. */
    private float[] predicted(float[] cloth, List<long[]> of) {
        float[] s = new float[16];
        for (int k = 0; k < 16; k++) {
            double q = quotient(cloth[k]);
            for (long[] p : of) {
                if (p[0] == 0) {
                    q = q + quotientOfDye((int) p[1], p[2], k);
                } else if (has(now.lots, (int) p[1])) {
                    int[] lot = now.lots.get((int) p[1]);
                    q = q + quotientOfDye(lot[0], (double) p[2] * (double) lot[1] / (double) lot[2], k);
                }
            }
            double band = 1.0 + q - Math.sqrt(q * q + 2.0 * q);
            s[k] = band < 0 ? 0 : (float) band;
        }
        return s;
    }

    boolean predict(int cloth) {
        if (!has(now.cloths, cloth)) {
            return not(2);
        }
        List<long[]> of = new ArrayList<>();
        for (int[] p : parts) {
            of.add(new long[] {p[0], p[1], p[2]});
        }
        prediction = predicted(now.cloths.get(cloth), of);
        parts.clear();
        return yes();
    }

    boolean light(int light, int band, int w) {
        if (!in(light, 0, 5) || !in(band, 0, 15) || !in(w, 0, 1000000)) {
            return not(3);
        }
        lights[light][band] = w;
        return yes();
    }

    boolean eye(int eye, int axis, int band, int w) {
        if (!in(eye, 0, 1) || !in(axis, 0, 2) || !in(band, 0, 15) || !in(w, 0, 1000000)) {
            return not(3);
        }
        eyes[eye][axis][band] = w;
        return yes();
    }

    boolean measure(int a, int b, int c) {
        if (!in(a, 1, 100) || !in(b, 1, 100) || !in(c, 1, 100)) {
            return not(3);
        }
        measure = new int[] {a, b, c};
        return yes();
    }

    private static boolean sight(int light, int eye) {
        return in(light, 0, 5) && in(eye, 0, 1);
    }

    private double f(float[] s, int light, int eye, int axis) {
        double sum = 0.0;
        long all = 0;
        for (int k = 0; k < 16; k++) {
            long w = (long) lights[light][k] * (long) eyes[eye][axis][k];
            sum = sum + (double) s[k] * (double) w;
            all += w;
        }
        return all == 0 ? 0.0 : Math.sqrt(sum / (double) all);
    }

    private double[] colours(float[] s, int light, int eye) {
        double f0 = f(s, light, eye, 0);
        double f1 = f(s, light, eye, 1);
        double f2 = f(s, light, eye, 2);
        return new double[] {100.0 * f1, 250.0 * (f0 - f1), 100.0 * (f1 - f2)};
    }

    private double gap(double[] first, double[] second) {
        double u = first[0] - second[0];
        double v = first[1] - second[1];
        double w = first[2] - second[2];
        return (double) measure[0] * u * u + (double) measure[1] * v * v + (double) measure[2] * w * w;
    }

    long colour(int sort, int i, int light, int eye, int k) {
        float[] s = spectrum(sort, i);
        return s == null || !sight(light, eye) || !in(k, 0, 2) ? 0
                : Double.doubleToRawLongBits(colours(s, light, eye)[k]);
    }

    private double chipGap(int a, int b, int light, int eye) {
        return gap(colours(now.chips.get(a), light, eye), colours(now.chips.get(b), light, eye));
    }

    long distance(int a, int b, int light, int eye) {
        if (!has(now.chips, a) || !has(now.chips, b) || !sight(light, eye)) {
            return -1;
        }
        return Double.doubleToRawLongBits(chipGap(a, b, light, eye));
    }

    int nearest(int light, int eye, int k) {
        if (prediction == null || !sight(light, eye) || !has(now.chips, k)) {
            return -1;
        }
        double[] goal = colours(prediction, light, eye);
        List<Integer> order = new ArrayList<>();
        List<Double> gaps = new ArrayList<>();
        for (int i = 0; i < now.chips.size(); i++) {
            order.add(i);
            gaps.add(gap(colours(now.chips.get(i), light, eye), goal));
        }
        // the sort is stable
        order.sort((a, b) -> Double.compare(gaps.get(a), gaps.get(b)));
        return order.get(k);
    }

    int parting(int a, int b, int eye) {
        if (!has(now.chips, a) || !has(now.chips, b) || !in(eye, 0, 1)) {
            return -1;
        }
        int best = 5;
        for (int light = 4; light >= 0; light--) {
            if (chipGap(a, b, light, eye) >= chipGap(a, b, best, eye)) {
                best = light;
            }
        }
        return best;
    }

    int solid(int sort, int chip, int light, int eye, int x, int y, int z) {
        if (!has(now.chips, chip)) {
            return no(2);
        }
        if (!in(sort, 0, 1) || !sight(light, eye) || !in(x, 1, 1000) || !in(y, 1, 1000) || !in(z, 1, 1000)) {
            return no(3);
        }
        if (now.solids.size() == 12) {
            return no(1);
        }
        act();
        Solid s = new Solid();
        s.sort = sort;
        s.light = light;
        s.eye = eye;
        s.colours = colours(now.chips.get(chip), light, eye);
        s.sizes = new double[] {(double) x / 10.0, (double) y / 10.0, (double) z / 10.0};
        now.solids.add(s);
        return now.solids.size() - 1;
    }

    private int side(Solid s, float[] spectrum) {
        double[] c = colours(spectrum, s.light, s.eye);
        double u = c[0] - s.colours[0];
        double v = c[1] - s.colours[1];
        double w = c[2] - s.colours[2];
        double x = s.sizes[0];
        double y = s.sizes[1];
        double z = s.sizes[2];
        if (s.sort == 1) {
            double sum = u * u / (x * x) + v * v / (y * y) + w * w / (z * z);
            return sum < 1 ? 1 : sum == 1 ? 2 : 0;
        }
        if (Math.abs(u) > x || Math.abs(v) > y || Math.abs(w) > z) {
            return 0;
        }
        return Math.abs(u) == x || Math.abs(v) == y || Math.abs(w) == z ? 2 : 1;
    }

    int inside(int solid, int chip) {
        return has(now.solids, solid) && has(now.chips, chip) ? side(now.solids.get(solid), now.chips.get(chip)) : -1;
    }

    /** Puts every try of the sets behind those that are there; sets and grams in the document's order. */
    private static void grid(List<int[]> tries, List<Integer> of, int dyes, int step, int n) {
        int m = of.size();
        for (int a = 0; a < m; a++) {
            for (int b = dyes > 1 ? a + 1 : 0; b < (dyes > 1 ? m : 1); b++) {
                for (int c = dyes > 2 ? b + 1 : 0; c < (dyes > 2 ? m : 1); c++) {
                    for (int i = 1; i <= n; i++) {
                        for (int j = 1; j <= (dyes > 1 ? n : 1); j++) {
                            for (int k = 1; k <= (dyes > 2 ? n : 1); k++) {
                                int[] all = {of.get(a), i * step, of.get(b), j * step, of.get(c), k * step};
                                tries.add(java.util.Arrays.copyOf(all, 2 * dyes));
                            }
                        }
                    }
                }
            }
        }
    }

    int recipe(int goal, int cloth, int light, int eye, int set, int most, int step, int n) {
        if (!has(now.chips, goal) || !has(now.cloths, cloth)) {
            return no(2);
        }
        List<Integer> of = new ArrayList<>();
        for (int d = 0; d < 32; d++) {
            if ((set & 1 << d) != 0) {
                of.add(d);
            }
        }
        boolean there = of.isEmpty() || of.get(of.size() - 1) < now.dyes.size();
        if (!sight(light, eye) || !in(most, 1, 3) || !in(step, 1, 10000) || !in(n, 1, 12) || !there) {
            return no(3);
        }
        trouble = 0;
        List<int[]> tries = new ArrayList<>();
        tries.add(new int[0]);
        for (int dyes = 1; dyes <= most; dyes++) {
            grid(tries, of, dyes, step, n);
        }
        recipe = new Result();
        recipe.all = tries.size() <= 1000;
        recipe.tries = Math.min(tries.size(), 1000);
        double[] colours = colours(now.chips.get(goal), light, eye);
        for (int t = 0; t < recipe.tries; t++) {
            int[] told = tries.get(t);
            List<long[]> mix = new ArrayList<>();
            long cost = 0;
            for (int p = 0; p < told.length; p += 2) {
                mix.add(new long[] {0, told[p], told[p + 1]});
                cost += (long) told[p + 1] * now.dyes.get(told[p]).cents;
            }
            double gap = gap(colours(predicted(now.cloths.get(cloth), mix), light, eye), colours);
            if (t == 0 || gap < recipe.distance || (gap == recipe.distance && cost < recipe.cost)) {
                recipe.distance = gap;
                recipe.cost = cost;
                recipe.told = told;
            }
        }
        return recipe.told.length / 2;
    }

    private static int ofResult(Result r, int what, int places) {
        if (r == null || what < 0 || what >= 2 + places) {
            return -1;
        }
        if (what < 2) {
            return what == 0 ? r.tries : r.all ? 1 : 0;
        }
        return what - 2 < r.told.length ? r.told[what - 2] : -1;
    }

    int recipeOf(int what) {
        return ofResult(recipe, what, 6);
    }

    long recipeBy(int what) {
        if (recipe == null) {
            return 0;
        }
        return what == 0 ? Double.doubleToRawLongBits(recipe.distance) : what == 1 ? recipe.cost : 0;
    }

    int lot(int dye, int up, int down, int milligrams) {
        if (!has(now.dyes, dye)) {
            return no(2);
        }
        if (!in(up, 1, 1000) || !in(down, 1, 1000) || !in(milligrams, 1, 1000000000)) {
            return no(3);
        }
        if (now.lots.size() == 20) {
            return no(1);
        }
        act();
        now.lots.add(new int[] {dye, up, down, milligrams, milligrams});
        return now.lots.size() - 1;
    }

    int batch(int cloth, int kilos) {
        if (!has(now.cloths, cloth)) {
            return no(2);
        }
        if (!in(kilos, 1, 1000)) {
            return no(3);
        }
        if (now.batches.size() == 12) {
            return no(1);
        }
        act();
        Batch b = new Batch();
        b.cloth = cloth;
        b.kilos = kilos;
        now.batches.add(b);
        return now.batches.size() - 1;
    }

    /** 0 if a weighing would be accepted, or its trouble. */
    private int weighTrouble(Batch b, int lot, int grams) {
        if (!in(grams, 1, 100000)) {
            return 3;
        }
        if ((long) grams * 1000 > now.lots.get(lot)[3]) {
            return 4;
        }
        boolean mine = b.weighings.stream().anyMatch(w -> w[0] == lot);
        return !mine && b.weighings.size() == 8 ? 1 : 0;
    }

    private static int put(Batch b, int lot, int grams) {
        for (int[] w : b.weighings) {
            if (w[0] == lot) {
                w[1] += grams;
                return w[1];
            }
        }
        b.weighings.add(new int[] {lot, grams});
        return grams;
    }

    int weigh(int batch, int lot, int grams) {
        if (!has(now.batches, batch) || !has(now.lots, lot)) {
            return no(2);
        }
        int why = weighTrouble(now.batches.get(batch), lot, grams);
        if (why != 0) {
            return no(why);
        }
        act();
        now.lots.get(lot)[3] -= grams * 1000;
        return put(now.batches.get(batch), lot, grams);
    }

    private double bathGap(Batch b, double[] goal, int light, int eye) {
        List<long[]> mix = new ArrayList<>();
        for (int[] w : b.weighings) {
            mix.add(new long[] {1, w[0], Math.floorDiv((long) w[1] * 10, (long) b.kilos)});
        }
        return gap(colours(predicted(now.cloths.get(b.cloth), mix), light, eye), goal);
    }

    int correct(int batch, int goal, int light, int eye, int step, int n) {
        if (!has(now.batches, batch) || !has(now.chips, goal)) {
            return no(2);
        }
        if (!sight(light, eye) || !in(step, 1, 10000) || !in(n, 1, 12)) {
            return no(3);
        }
        trouble = 0;
        Batch own = now.batches.get(batch);
        double[] colours = colours(now.chips.get(goal), light, eye);
        addition = new Result();
        addition.distance = bathGap(own, colours, light, eye);
        List<Integer> of = new ArrayList<>();
        for (int i = 0; i < now.lots.size(); i++) {
            of.add(i);
        }
        List<int[]> tries = new ArrayList<>();
        grid(tries, of, 1, step, n);
        grid(tries, of, 2, step, n);
        for (int[] told : tries) {
            Batch b = own.copy();
            boolean left = false;
            for (int p = 0; p < told.length && !left; p += 2) {
                left = weighTrouble(b, told[p], told[p + 1]) != 0;
                put(b, told[p], told[p + 1]);
            }
            if (left) {
                continue;
            }
            if (addition.tries == 1000) {
                addition.all = false;
                break;
            }
            addition.tries++;
            double gap = bathGap(b, colours, light, eye);
            if (gap < addition.distance) {
                addition.distance = gap;
                addition.told = told;
            }
        }
        return addition.told.length / 2;
    }

    int addition(int what) {
        return ofResult(addition, what, 4);
    }

    boolean measured(int batch) {
        if (!has(now.batches, batch)) {
            return not(2);
        }
        act();
        now.batches.get(batch).measured = row.clone();
        return true;
    }

    int passes(int batch, int solid) {
        if (!has(now.batches, batch) || !has(now.solids, solid) || now.batches.get(batch).measured == null) {
            return -1;
        }
        return side(now.solids.get(solid), now.batches.get(batch).measured) == 0 ? 0 : 1;
    }

    int told(int i, int what) {
        if (in(what, 0, 3) && has(now.lots, i)) {
            int[] l = now.lots.get(i);
            return new int[] {l[0], l[3], l[4] - l[3], l[4]}[what];
        }
        if (in(what, 4, 8) && has(now.batches, i)) {
            Batch b = now.batches.get(i);
            int sum = b.weighings.stream().mapToInt(w -> w[1]).sum();
            return new int[] {b.cloth, b.kilos, b.weighings.size(), sum, b.measured == null ? 0 : 1}[what - 4];
        }
        if (in(what, 9, 11) && has(now.dyes, i)) {
            Dye d = now.dyes.get(i);
            return new int[] {d.cloth, d.grams.size(), d.cents}[what - 9];
        }
        return -1;
    }

    int weighed(int batch, int k, boolean grams) {
        if (!has(now.batches, batch) || !has(now.batches.get(batch).weighings, k)) {
            return -1;
        }
        return now.batches.get(batch).weighings.get(k)[grams ? 1 : 0];
    }

    boolean remeasure(int chip) {
        if (!has(now.chips, chip)) {
            return not(2);
        }
        act();
        float[] drift = new float[16];
        for (int k = 0; k < 16; k++) {
            drift[k] = row[k] - now.chips.get(chip)[k];
        }
        now.chips.set(chip, row.clone());
        now.drifts.set(chip, drift);
        return true;
    }

    int drift(int chip) {
        if (!has(now.chips, chip)) {
            return 0;
        }
        double sum = 0.0;
        for (float f : now.drifts.get(chip)) {
            sum += (double) f;
        }
        return Float.floatToRawIntBits((float) (sum / 16.0));
    }

    private static int sum(int[] bytes) {
        int sum = 17;
        for (int k = 0; k < 64; k++) {
            sum = sum * 31 + bytes[k];
        }
        return sum;
    }

    int pack(int sort, int i) {
        float[] s = spectrum(sort, i);
        if (s == null) {
            return -1;
        }
        java.nio.ByteBuffer b = java.nio.ByteBuffer.allocate(68);
        for (float f : s) {
            b.putFloat(f);
        }
        int[] bytes = new int[68];
        for (int k = 0; k < 64; k++) {
            bytes[k] = b.get(k) & 0xff;
        }
        b.putInt(64, sum(bytes));
        for (int k = 64; k < 68; k++) {
            bytes[k] = b.get(k) & 0xff;
        }
        out = bytes;
        return 68;
    }

    int out(int i) {
        if (!in(i, 0, out.length - 1)) {
            throw new java.util.NoSuchElementException();
        }
        return out[i];
    }

    boolean letter(int k, int b) {
        if (!in(k, 0, 67) || !in(b, 0, 255)) {
            return false;
        }
        letter[k] = b;
        return true;
    }

    boolean post() {
        if (out.length != 68) {
            return false;
        }
        letter = out.clone();
        return true;
    }

    boolean unpack() {
        java.nio.ByteBuffer b = java.nio.ByteBuffer.allocate(68);
        for (int k = 0; k < 68; k++) {
            b.put((byte) letter[k]);
        }
        if (b.getInt(64) != sum(letter)) {
            return not(5);
        }
        for (int k = 0; k < 16; k++) {
            float f = b.getFloat(4 * k);
            if (b.getInt(4 * k) != 0 && !(f > 0 && f <= 2)) {
                return not(3);
            }
        }
        for (int k = 0; k < 16; k++) {
            row[k] = b.getFloat(4 * k);
        }
        return yes();
    }

    int undo() {
        if (ahead.isEmpty()) {
            return 0;
        }
        now = ahead.removeLast();
        return 1;
    }

    int trouble() {
        return trouble;
    }

    int count(int what) {
        int[] all = {now.chips.size(), now.cloths.size(), now.dyes.size(), now.solids.size(), now.lots.size(),
            now.batches.size(), parts.size(), ahead.size(), out.length};
        return in(what, 0, 8) ? all[what] : -1;
    }
}
