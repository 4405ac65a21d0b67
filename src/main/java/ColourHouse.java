import java.util.NoSuchElementException;

/** A bench for matching colours; shared/DOC.md says what each call promises. */
public final class ColourHouse {
    public static final int NONE = -1;

    private static final int BANDS = 16;
    private static final int AXES = 3;
    private static final int CHIPS = 40;
    private static final int CLOTHS = 8;
    private static final int DYES = 12;
    private static final int STRENGTHS = 6;
    private static final int LIGHTS = 6;
    private static final int EYES = 2;
    private static final int SOLIDS = 12;
    private static final int LOTS = 20;
    private static final int BATCHES = 12;
    private static final int WEIGHINGS = 8;
    private static final int PARTS = 6;
    private static final int ACTS = 60;
    private static final int TRIES = 1000;

    private static final int MOST_GRAMS = 100000;
    private static final int MOST_PART = 1000000;
    private static final int MOST_STOCK = 1000000000;
    private static final int MOST_CENTS = 100000;
    private static final int MOST_SIZE = 1000;
    private static final int MOST_SHARE = 1000;
    private static final int MOST_KILOS = 1000;
    private static final int MOST_MEASURE = 100;
    private static final int MOST_STEP = 10000;
    private static final int MOST_TIMES = 12;
    private static final int MOST_IN_RECIPE = 3;
    private static final int MOST_IN_ADDITION = 2;

    private static final int FINE = 0;
    private static final int NO_ROOM = 1;
    private static final int NO_SUCH = 2;
    private static final int WRONG_NUMBER = 3;
    private static final int NO_STOCK = 4;
    private static final int WRONG_SUM = 5;

    /** What there is, numbered as count() numbers it; an act that makes one bears the same number. */
    private static final int CHIP = 0;
    private static final int CLOTH = 1;
    private static final int DYE = 2;
    private static final int SOLID = 3;
    private static final int LOT = 4;
    private static final int BATCH = 5;
    private static final int KINDS = 6;

    private static final int STRENGTH_ACT = 6;
    private static final int CENTS_ACT = 7;
    private static final int WEIGH_ACT = 8;
    private static final int MEASURED_ACT = 9;
    private static final int REMEASURE_ACT = 10;

    private final float[] row = new float[BANDS];
    private final float[] prediction = new float[BANDS];
    private boolean predicted = false;
    private final int[] made = new int[KINDS];
    private final Chip[] chips = new Chip[CHIPS];
    private final float[][] cloths = new float[CLOTHS][BANDS];
    private final Dye[] dyes = new Dye[DYES];
    private final Solid[] solids = new Solid[SOLIDS];
    private final Lot[] lots = new Lot[LOTS];
    private final Batch[] batches = new Batch[BATCHES];
    private final int[][] parts = new int[PARTS][3];
    private int partCount = 0;
    private final Sight sight = new Sight();
    private final double[] gaps = new double[CHIPS];
    private final Mix mix = new Mix();
    private final Search recipes = new Search();
    private final Search additions = new Search();
    private final Mail mail = new Mail();
    private final Acts acts = new Acts();
    private int why = FINE;

    public ColourHouse() {
        for (int i = 0; i < CHIPS; i++) {
            chips[i] = new Chip();
        }
        for (int i = 0; i < DYES; i++) {
            dyes[i] = new Dye();
        }
        for (int i = 0; i < SOLIDS; i++) {
            solids[i] = new Solid();
        }
        for (int i = 0; i < LOTS; i++) {
            lots[i] = new Lot();
        }
        for (int i = 0; i < BATCHES; i++) {
            batches[i] = new Batch();
        }
    }

    // ---- spectra

    public boolean bands(int k, int a, int b, int c, int d) {
        if (k < 0 || k > 3) {
            return false;
        }
        if (!Numbers.isTaken(a) || !Numbers.isTaken(b) || !Numbers.isTaken(c) || !Numbers.isTaken(d)) {
            return false;
        }
        row[4 * k] = Numbers.floatOf(a);
        row[4 * k + 1] = Numbers.floatOf(b);
        row[4 * k + 2] = Numbers.floatOf(c);
        row[4 * k + 3] = Numbers.floatOf(d);
        return true;
    }

    public int chip() {
        if (made[CHIP] >= CHIPS) {
            return refused(NO_ROOM);
        }
        copyRow(row, chips[made[CHIP]].bands);
        return newOne(CHIP);
    }

    public int cloth() {
        if (made[CLOTH] >= CLOTHS) {
            return refused(NO_ROOM);
        }
        copyRow(row, cloths[made[CLOTH]]);
        return newOne(CLOTH);
    }

    public int dye(int cloth) {
        if (!isThere(CLOTH, cloth)) {
            return refused(NO_SUCH);
        }
        if (made[DYE] >= DYES) {
            return refused(NO_ROOM);
        }
        dyes[made[DYE]].begin(cloth);
        return newOne(DYE);
    }

    public int strength(int dye, int grams) {
        if (!isThere(DYE, dye)) {
            return refused(NO_SUCH);
        }
        Dye its = dyes[dye];
        if (!isWithin(grams, 1, MOST_GRAMS) || grams <= its.lastGrams()) {
            return refused(WRONG_NUMBER);
        }
        if (its.strengths >= STRENGTHS) {
            return refused(NO_ROOM);
        }
        its.strengthen(grams, row, cloths[its.cloth]);
        acts.note(STRENGTH_ACT, dye, 0, 0);
        accept();
        return its.strengths;
    }

    public boolean cents(int dye, int c) {
        if (!isThere(DYE, dye)) {
            return denied(NO_SUCH);
        }
        if (!isWithin(c, 0, MOST_CENTS)) {
            return denied(WRONG_NUMBER);
        }
        acts.note(CENTS_ACT, dye, dyes[dye].cents, 0);
        dyes[dye].cents = c;
        return accept();
    }

    public int band(int sort, int i, int k) {
        float[] spectrum = sort == 4 ? driftOf(i) : spectrumOf(sort, i);
        if (spectrum == null || k < 0 || k >= BANDS) {
            return 0;
        }
        return Numbers.floatBits(spectrum[k]);
    }

    public boolean pick(int sort, int i) {
        float[] spectrum = spectrumOf(sort, i);
        if (spectrum == null || sort == 0) {
            return denied(NO_SUCH);
        }
        copyRow(spectrum, row);
        return accept();
    }

    public int blend(int a, int b, int up, int down) {
        if (!isThere(CHIP, a) || !isThere(CHIP, b)) {
            return refused(NO_SUCH);
        }
        if (!isWithin(down, 1, MOST_SHARE) || !isWithin(up, 0, down)) {
            return refused(WRONG_NUMBER);
        }
        if (made[CHIP] >= CHIPS) {
            return refused(NO_ROOM);
        }
        chips[made[CHIP]].become(chips[a], chips[b], up, down);
        return newOne(CHIP);
    }

    // ---- mixing

    public int part(boolean lot, int which, int grams) {
        if (!isThere(lot ? LOT : DYE, which)) {
            return refused(NO_SUCH);
        }
        if (!isWithin(grams, 0, MOST_PART)) {
            return refused(WRONG_NUMBER);
        }
        if (partCount >= PARTS) {
            return refused(NO_ROOM);
        }
        parts[partCount][0] = lot ? LOT : DYE;
        parts[partCount][1] = which;
        parts[partCount][2] = grams;
        partCount++;
        accept();
        return partCount;
    }

    public boolean predict(int cloth) {
        if (!isThere(CLOTH, cloth)) {
            return denied(NO_SUCH);
        }
        mix.begin(cloths[cloth]);
        for (int p = 0; p < partCount; p++) {
            mixPart(parts[p][0], parts[p][1], parts[p][2]);
        }
        copyRow(mix.result(), prediction);
        predicted = true;
        partCount = 0;
        return accept();
    }

    // ---- colours

    public boolean light(int light, int band, int w) {
        return sight.setLight(light, band, w) ? accept() : denied(WRONG_NUMBER);
    }

    public boolean eye(int eye, int axis, int band, int w) {
        return sight.setEye(eye, axis, band, w) ? accept() : denied(WRONG_NUMBER);
    }

    public boolean measure(int a, int b, int c) {
        if (!isWithin(a, 1, MOST_MEASURE) || !isWithin(b, 1, MOST_MEASURE) || !isWithin(c, 1, MOST_MEASURE)) {
            return denied(WRONG_NUMBER);
        }
        sight.setMeasure(a, b, c);
        return accept();
    }

    public long colour(int sort, int i, int light, int eye, int k) {
        float[] spectrum = spectrumOf(sort, i);
        if (spectrum == null || !Sight.isOne(light, eye) || k < 0 || k >= AXES) {
            return 0L;
        }
        sight.aim(light, eye);
        return Numbers.doubleBits(sight.coloursOf(spectrum)[k]);
    }

    public long distance(int a, int b, int light, int eye) {
        if (!isThere(CHIP, a) || !isThere(CHIP, b) || !Sight.isOne(light, eye)) {
            return NONE;
        }
        return Numbers.doubleBits(chipGap(a, b, light, eye));
    }

    public int nearest(int light, int eye, int k) {
        if (!predicted || !Sight.isOne(light, eye)) {
            return NONE;
        }
        sight.aim(light, eye);
        sight.setGoal(prediction);
        for (int i = 0; i < made[CHIP]; i++) {
            gaps[i] = sight.gapTo(chips[i].bands);
        }
        for (int i = 0; i < made[CHIP]; i++) {
            if (nearerThan(i) == k) {
                return i;
            }
        }
        return NONE;
    }

    public int parting(int a, int b, int eye) {
        if (!isThere(CHIP, a) || !isThere(CHIP, b) || eye < 0 || eye >= EYES) {
            return NONE;
        }
        int best = 0;
        double greatest = chipGap(a, b, 0, eye);
        for (int light = 1; light < LIGHTS; light++) {
            double gap = chipGap(a, b, light, eye);
            if (gap > greatest) {
                best = light;
                greatest = gap;
            }
        }
        return best;
    }

    public int solid(int sort, int chip, int light, int eye, int x, int y, int z) {
        if (!isThere(CHIP, chip)) {
            return refused(NO_SUCH);
        }
        if (!isWithin(sort, 0, 1) || !Sight.isOne(light, eye) || !isWithin(x, 1, MOST_SIZE)
                || !isWithin(y, 1, MOST_SIZE) || !isWithin(z, 1, MOST_SIZE)) {
            return refused(WRONG_NUMBER);
        }
        if (made[SOLID] >= SOLIDS) {
            return refused(NO_ROOM);
        }
        Solid its = solids[made[SOLID]];
        sight.aim(light, eye);
        its.begin(sort, light, eye, sight.coloursOf(chips[chip].bands));
        its.setSizes(x, y, z);
        return newOne(SOLID);
    }

    public int inside(int solid, int chip) {
        if (!isThere(SOLID, solid) || !isThere(CHIP, chip)) {
            return NONE;
        }
        return sideOf(solids[solid], chips[chip].bands);
    }

    // ---- recipes

    public int recipe(int goal, int cloth, int light, int eye, int set, int most, int step, int n) {
        if (!isThere(CHIP, goal) || !isThere(CLOTH, cloth)) {
            return refused(NO_SUCH);
        }
        if (!Sight.isOne(light, eye) || !isWithin(most, 1, MOST_IN_RECIPE) || !isGrid(step, n)
                || (set >>> made[DYE]) != 0) {
            return refused(WRONG_NUMBER);
        }
        recipes.begin(most, step, 0);
        for (int d = 0; d < made[DYE]; d++) {
            if (((set >>> d) & 1) != 0) {
                recipes.offer(d, n, 0);
            }
        }
        sight.aim(light, eye);
        sight.setGoal(chips[goal].bands);
        tryRecipe(cloths[cloth]);
        for (int t = 1; t < TRIES && recipes.advance(); t++) {
            tryRecipe(cloths[cloth]);
        }
        recipes.end();
        accept();
        return recipes.bestSize;
    }

    public int recipeOf(int what) {
        return recipes.resultOf(what);
    }

    public long recipeBy(int what) {
        if (!recipes.ended) {
            return 0L;
        }
        if (what == 0) {
            return Numbers.doubleBits(recipes.bestGap);
        }
        return what == 1 ? recipes.bestCost : 0L;
    }

    // ---- lots and batches

    public int lot(int dye, int up, int down, int milligrams) {
        if (!isThere(DYE, dye)) {
            return refused(NO_SUCH);
        }
        if (!isWithin(up, 1, MOST_SHARE) || !isWithin(down, 1, MOST_SHARE)
                || !isWithin(milligrams, 1, MOST_STOCK)) {
            return refused(WRONG_NUMBER);
        }
        if (made[LOT] >= LOTS) {
            return refused(NO_ROOM);
        }
        lots[made[LOT]].begin(dye, up, down, milligrams);
        return newOne(LOT);
    }

    public int batch(int cloth, int kilos) {
        if (!isThere(CLOTH, cloth)) {
            return refused(NO_SUCH);
        }
        if (!isWithin(kilos, 1, MOST_KILOS)) {
            return refused(WRONG_NUMBER);
        }
        if (made[BATCH] >= BATCHES) {
            return refused(NO_ROOM);
        }
        batches[made[BATCH]].begin(cloth, kilos);
        return newOne(BATCH);
    }

    public int weigh(int batch, int lot, int grams) {
        if (!isThere(BATCH, batch) || !isThere(LOT, lot)) {
            return refused(NO_SUCH);
        }
        if (!isWithin(grams, 1, MOST_GRAMS)) {
            return refused(WRONG_NUMBER);
        }
        if (lots[lot].left < grams * 1000) {
            return refused(NO_STOCK);
        }
        if (!batches[batch].hasRoomFor(lot)) {
            return refused(NO_ROOM);
        }
        lots[lot].left -= grams * 1000;
        acts.note(WEIGH_ACT, batch, lot, grams);
        accept();
        return batches[batch].addGrams(lot, grams);
    }

    public int correct(int batch, int goal, int light, int eye, int step, int n) {
        if (!isThere(BATCH, batch) || !isThere(CHIP, goal)) {
            return refused(NO_SUCH);
        }
        if (!Sight.isOne(light, eye) || !isGrid(step, n)) {
            return refused(WRONG_NUMBER);
        }
        Batch bath = batches[batch];
        additions.begin(MOST_IN_ADDITION, step, WEIGHINGS - bath.lotCount);
        for (int i = 0; i < made[LOT]; i++) {
            int most = Math.min(n, Math.min(MOST_GRAMS, lots[i].left / 1000) / step);
            additions.offer(i, most, bath.placeOf(i) == NONE ? 1 : 0);
        }
        sight.aim(light, eye);
        sight.setGoal(chips[goal].bands);
        additions.setBound(bathGap(bath));
        for (int t = 0; t < TRIES && additions.advance(); t++) {
            additions.judge(bathGap(bath), 0L);
        }
        additions.end();
        accept();
        return additions.bestSize;
    }

    public int addition(int what) {
        return additions.resultOf(what);
    }

    public boolean measured(int batch) {
        if (!isThere(BATCH, batch)) {
            return denied(NO_SUCH);
        }
        Batch its = batches[batch];
        float[] kept = acts.note(MEASURED_ACT, batch, its.isMeasured ? 1 : 0, 0);
        copyRow(its.cameTo, kept);
        copyRow(row, its.cameTo);
        its.isMeasured = true;
        return accept();
    }

    public int passes(int batch, int solid) {
        if (!isThere(BATCH, batch) || !isThere(SOLID, solid) || !batches[batch].isMeasured) {
            return NONE;
        }
        return sideOf(solids[solid], batches[batch].cameTo) == 0 ? 0 : 1;
    }

    public int told(int i, int what) {
        if (what >= 0 && what <= 3) {
            return isThere(LOT, i) ? lots[i].tell(what) : NONE;
        }
        if (what >= 4 && what <= 8) {
            return isThere(BATCH, i) ? batches[i].tell(what - 4) : NONE;
        }
        if (what >= 9 && what <= 11) {
            return isThere(DYE, i) ? dyes[i].tell(what - 9) : NONE;
        }
        return NONE;
    }

    public int weighed(int batch, int k, boolean grams) {
        if (!isThere(BATCH, batch) || k < 0 || k >= batches[batch].lotCount) {
            return NONE;
        }
        return grams ? batches[batch].grams[k] : batches[batch].lots[k];
    }

    // ---- drift, bytes, what is taken back

    public boolean remeasure(int chip) {
        if (!isThere(CHIP, chip)) {
            return denied(NO_SUCH);
        }
        float[] kept = acts.note(REMEASURE_ACT, chip, 0, 0);
        chips[chip].keepIn(kept);
        chips[chip].remeasureAs(row);
        return accept();
    }

    public int drift(int chip) {
        float[] its = driftOf(chip);
        if (its == null) {
            return 0;
        }
        double sum = 0.0;
        for (int k = 0; k < BANDS; k++) {
            sum = sum + its[k];
        }
        return Numbers.floatBits(sum / 16.0);
    }

    public int pack(int sort, int i) {
        float[] spectrum = spectrumOf(sort, i);
        if (spectrum == null) {
            return NONE;
        }
        return mail.write(spectrum);
    }

    public int out(int i) throws NoSuchElementException {
        if (i < 0 || i >= mail.outSize) {
            throw new NoSuchElementException("OUT has no such byte");
        }
        return mail.outBytes[i];
    }

    public boolean letter(int k, int b) {
        if (k < 0 || k >= Mail.BYTES || b < 0 || b > 255) {
            return false;
        }
        mail.letterBytes[k] = b;
        return true;
    }

    public boolean post() {
        if (mail.outSize != Mail.BYTES) {
            return false;
        }
        System.arraycopy(mail.outBytes, 0, mail.letterBytes, 0, Mail.BYTES);
        return true;
    }

    public boolean unpack() {
        if (!mail.hasRightSum()) {
            return denied(WRONG_SUM);
        }
        if (!mail.isTakenAll()) {
            return denied(WRONG_NUMBER);
        }
        mail.read(row);
        return accept();
    }

    public int undo() {
        if (acts.size == 0) {
            return 0;
        }
        int[] act = acts.latest();
        if (act[0] < KINDS) {
            made[act[0]]--;
        } else {
            takeBack(act, acts.keptOfLatest());
        }
        acts.drop();
        return 1;
    }

    public int trouble() {
        return why;
    }

    public int count(int what) {
        if (what >= 0 && what < KINDS) {
            return made[what];
        }
        if (what == 6) {
            return partCount;
        }
        if (what == 7) {
            return acts.size;
        }
        return what == 8 ? mail.outSize : NONE;
    }

    // ---- what the calls share

    private boolean accept() {
        why = FINE;
        return true;
    }

    private boolean denied(int trouble) {
        why = trouble;
        return false;
    }

    private int refused(int trouble) {
        why = trouble;
        return NONE;
    }

    private static boolean isWithin(int number, int least, int most) {
        return number >= least && number <= most;
    }

    private static boolean isGrid(int step, int n) {
        return isWithin(step, 1, MOST_STEP) && isWithin(n, 1, MOST_TIMES);
    }

    private boolean isThere(int kind, int i) {
        return i >= 0 && i < made[kind];
    }

    private static void copyRow(float[] from, float[] to) {
        System.arraycopy(from, 0, to, 0, BANDS);
    }

    private int newOne(int kind) {
        acts.note(kind, 0, 0, 0);
        accept();
        made[kind]++;
        return made[kind] - 1;
    }

    /** The spectrum that a sort of band() names, but for the drift; null where there is none such. */
    private float[] spectrumOf(int sort, int i) {
        switch (sort) {
            case 0:
                return row;
            case 1:
                return isThere(CHIP, i) ? chips[i].bands : null;
            case 2:
                return isThere(CLOTH, i) ? cloths[i] : null;
            case 3:
                return predicted ? prediction : null;
            case 5:
                return isThere(BATCH, i) && batches[i].isMeasured ? batches[i].cameTo : null;
            default:
                return null;
        }
    }

    private float[] driftOf(int chip) {
        return isThere(CHIP, chip) ? chips[chip].moved : null;
    }

    /** Adds a part to the mix; its dye or lot may have been taken back since it was named. */
    private void mixPart(int kind, int which, long grams) {
        if (!isThere(kind, which)) {
            return;
        }
        if (kind == LOT) {
            mix.add(dyes[lots[which].dye], lots[which].worthOf(grams));
        } else {
            mix.add(dyes[which], grams);
        }
    }

    private double chipGap(int a, int b, int light, int eye) {
        sight.aim(light, eye);
        sight.setGoal(chips[a].bands);
        return sight.gapTo(chips[b].bands);
    }

    /** How many chips come ahead of one by their gaps; of gaps alike the lower number comes first. */
    private int nearerThan(int chip) {
        int nearer = 0;
        for (int i = 0; i < made[CHIP]; i++) {
            if (gaps[i] < gaps[chip] || (gaps[i] == gaps[chip] && i < chip)) {
                nearer++;
            }
        }
        return nearer;
    }

    private int sideOf(Solid solid, float[] spectrum) {
        sight.aim(solid.light, solid.eye);
        return solid.sideOf(sight.coloursOf(spectrum));
    }

    private void tryRecipe(float[] cloth) {
        mix.begin(cloth);
        long cost = 0L;
        for (int p = 0; p < recipes.size; p++) {
            mixPart(DYE, recipes.nameAt(p), recipes.gramsAt(p));
            cost += (long) recipes.gramsAt(p) * dyes[recipes.nameAt(p)].cents;
        }
        recipes.judge(sight.gapTo(mix.result()), cost);
    }

    /** The gap to the goal of a bath with the addition that is being tried. */
    private double bathGap(Batch bath) {
        mix.begin(cloths[bath.cloth]);
        for (int k = 0; k < bath.lotCount; k++) {
            int lot = bath.lots[k];
            mixPart(LOT, lot, bath.share(bath.grams[k] + additions.gramsOf(lot)));
        }
        for (int p = 0; p < additions.size; p++) {
            int lot = additions.nameAt(p);
            if (bath.placeOf(lot) == NONE) {
                mixPart(LOT, lot, bath.share(additions.gramsAt(p)));
            }
        }
        return sight.gapTo(mix.result());
    }

    private void takeBack(int[] act, float[] kept) {
        switch (act[0]) {
            case STRENGTH_ACT:
                dyes[act[1]].strengths--;
                break;
            case CENTS_ACT:
                dyes[act[1]].cents = act[2];
                break;
            case WEIGH_ACT:
                batches[act[1]].takeGrams(act[2], act[3]);
                lots[act[2]].left += act[3] * 1000;
                break;
            case MEASURED_ACT:
                batches[act[1]].isMeasured = act[2] == 1;
                copyRow(kept, batches[act[1]].cameTo);
                break;
            case REMEASURE_ACT:
                chips[act[1]].restoreFrom(kept);
                break;
            default:
                break;
        }
    }

    /** Bits of floats and doubles, and the root, by plain arithmetic: LANGUAGE.md leaves no library for them. */
    private static final class Numbers {
        private static final int BITS_OF_TWO = 0x40000000;
        private static final int FLOAT_UNIT = 1 << 23;
        private static final long DOUBLE_UNIT = 1L << 52;
        private static final int MOST_SHIFTS = 1100;

        static boolean isTaken(int bits) {
            return bits >= 0 && bits <= BITS_OF_TWO;
        }

        /** The float of bits that are taken. */
        static float floatOf(int bits) {
            int exponent = bits >>> 23;
            int fraction = bits & (FLOAT_UNIT - 1);
            double value = exponent == 0 ? fraction : fraction + FLOAT_UNIT;
            int halvings = 150 - Math.max(exponent, 1);
            for (int k = 0; k < halvings; k++) {
                value = value * 0.5;
            }
            return (float) value;
        }

        /** The bits of a value made a float; the sign is the value's, also where the float is 0. */
        static int floatBits(double value) {
            int sign = value < 0 ? 1 << 31 : 0;
            float size = (float) (value < 0 ? -value : value);
            if (size == 0) {
                return sign;
            }
            double scaled = (double) size * FLOAT_UNIT;
            int exponent = 127;
            for (int k = 0; k < MOST_SHIFTS && scaled >= 2.0 * FLOAT_UNIT; k++) {
                scaled = scaled * 0.5;
                exponent++;
            }
            for (int k = 0; k < MOST_SHIFTS && scaled < FLOAT_UNIT && exponent > 1; k++) {
                scaled = scaled * 2.0;
                exponent--;
            }
            // the unit's own bit lifts the exponent by one, and is missing just where the float is a subnormal one
            return sign | (((exponent - 1) << 23) + (int) scaled);
        }

        static long doubleBits(double value) {
            if (value == 0) {
                return 0L;
            }
            long sign = value < 0 ? 1L << 63 : 0L;
            double scaled = (value < 0 ? -value : value) * DOUBLE_UNIT;
            long exponent = 1023L;
            for (int k = 0; k < MOST_SHIFTS && scaled >= 2.0 * DOUBLE_UNIT; k++) {
                scaled = scaled * 0.5;
                exponent++;
            }
            for (int k = 0; k < MOST_SHIFTS && scaled < DOUBLE_UNIT && exponent > 1; k++) {
                scaled = scaled * 2.0;
                exponent--;
            }
            return sign | (((exponent - 1L) << 52) + (long) scaled);
        }

        /** The exact root rounded to the nearest double; 0 of what isn't above 0. */
        static double rootOf(double x) {
            if (!(x > 0)) {
                return 0.0;
            }
            double square = x;
            double unit = 1.0;
            for (int k = 0; k < MOST_SHIFTS && square >= 4.0; k++) {
                square = square * 0.25;
                unit = unit * 2.0;
            }
            for (int k = 0; k < MOST_SHIFTS && square < 1.0; k++) {
                square = square * 4.0;
                unit = unit * 0.5;
            }
            double guess = 0.69 + square * 0.33;
            // a start within a twentieth, and each step squares the error
            for (int k = 0; k < 4; k++) {
                guess = (guess + square / guess) * 0.5;
            }
            long root = nearestRoot((long) (square * DOUBLE_UNIT), (long) (guess * DOUBLE_UNIT));
            return (double) root / DOUBLE_UNIT * unit;
        }

        /** The whole number nearest to the root of square * 2 to the 52nd; the guess is off by some few at most. */
        private static long nearestRoot(long square, long guess) {
            long root = guess;
            for (int k = 0; k < 16; k++) {
                // both products wrap, but their difference is small enough to be right all the same
                long rest = (square << 52) - root * root;
                if (rest > root) {
                    root++;
                } else if (rest <= -root) {
                    root--;
                } else {
                    return root;
                }
            }
            return root;
        }
    }

    private static final class Chip {
        final float[] bands = new float[BANDS];
        /** 0 for a new chip of a number that is free again too: what had moved the old one was taken back ahead of it. */
        final float[] moved = new float[BANDS];

        void become(Chip a, Chip b, int up, int down) {
            for (int k = 0; k < BANDS; k++) {
                bands[k] = (float) (((double) a.bands[k] * up + (double) b.bands[k] * (down - up)) / down);
            }
        }

        void remeasureAs(float[] now) {
            for (int k = 0; k < BANDS; k++) {
                moved[k] = now[k] - bands[k];
                bands[k] = now[k];
            }
        }

        void keepIn(float[] kept) {
            System.arraycopy(bands, 0, kept, 0, BANDS);
            System.arraycopy(moved, 0, kept, BANDS, BANDS);
        }

        void restoreFrom(float[] kept) {
            System.arraycopy(kept, 0, bands, 0, BANDS);
            System.arraycopy(kept, BANDS, moved, 0, BANDS);
        }
    }

    private static final class Dye {
        int cloth = 0;
        int cents = 0;
        int strengths = 0;
        final int[] grams = new int[STRENGTHS];
        final double[][] own = new double[STRENGTHS][BANDS];

        void begin(int itsCloth) {
            cloth = itsCloth;
            cents = 0;
            strengths = 0;
        }

        int lastGrams() {
            return strengths == 0 ? 0 : grams[strengths - 1];
        }

        /** The place of the first strength that isn't below these grams; behind the last one if all are. */
        int firstFrom(double least) {
            for (int p = 0; p < strengths; p++) {
                if (grams[p] >= least) {
                    return p;
                }
            }
            return strengths;
        }

        void strengthen(int itsGrams, float[] dyed, float[] bare) {
            for (int k = 0; k < BANDS; k++) {
                double more = Mix.quotientOf(dyed[k]) - Mix.quotientOf(bare[k]);
                own[strengths][k] = more < 0 ? 0.0 : more;
            }
            grams[strengths] = itsGrams;
            strengths++;
        }

        int tell(int what) {
            return what == 0 ? cloth : what == 1 ? strengths : cents;
        }
    }

    private static final class Lot {
        int dye = 0;
        int up = 1;
        int down = 1;
        int cameIn = 0;
        int left = 0;

        void begin(int itsDye, int itsUp, int itsDown, int milligrams) {
            dye = itsDye;
            up = itsUp;
            down = itsDown;
            cameIn = milligrams;
            left = milligrams;
        }

        /** The grams of its dye that grams of the lot stand for. */
        double worthOf(long grams) {
            return (double) grams * up / down;
        }

        int tell(int what) {
            switch (what) {
                case 0:
                    return dye;
                case 1:
                    return left;
                case 2:
                    return cameIn - left;
                default:
                    return cameIn;
            }
        }
    }

    private static final class Batch {
        int cloth = 0;
        int kilos = 1;
        int lotCount = 0;
        final int[] lots = new int[WEIGHINGS];
        final int[] grams = new int[WEIGHINGS];
        boolean isMeasured = false;
        final float[] cameTo = new float[BANDS];

        void begin(int itsCloth, int itsKilos) {
            cloth = itsCloth;
            kilos = itsKilos;
            lotCount = 0;
            isMeasured = false;
        }

        int placeOf(int lot) {
            for (int k = 0; k < lotCount; k++) {
                if (lots[k] == lot) {
                    return k;
                }
            }
            return NONE;
        }

        boolean hasRoomFor(int lot) {
            return lotCount < WEIGHINGS || placeOf(lot) != NONE;
        }

        /** The grams it has of a lot then; there is room for it. */
        int addGrams(int lot, int more) {
            int k = placeOf(lot);
            if (k == NONE) {
                k = lotCount;
                lotCount++;
                lots[k] = lot;
                grams[k] = 0;
            }
            grams[k] += more;
            return grams[k];
        }

        /** Takes back the latest weighing: a lot that is left without grams came with it, as the last one. */
        void takeGrams(int lot, int less) {
            int k = placeOf(lot);
            if (k == NONE) {
                return;
            }
            grams[k] -= less;
            if (grams[k] == 0) {
                lotCount--;
            }
        }

        /** What a lot's grams are as a part of the bath. */
        long share(int lotGrams) {
            return (long) lotGrams * 10 / kilos;
        }

        int gramsInAll() {
            int sum = 0;
            for (int k = 0; k < lotCount; k++) {
                sum += grams[k];
            }
            return sum;
        }

        int tell(int what) {
            switch (what) {
                case 0:
                    return cloth;
                case 1:
                    return kilos;
                case 2:
                    return lotCount;
                case 3:
                    return gramsInAll();
                default:
                    return isMeasured ? 1 : 0;
            }
        }
    }

    private static final class Solid {
        private static final int OUTSIDE = 0;
        private static final int INSIDE = 1;
        private static final int BORDER = 2;

        int sort = 0;
        int light = 0;
        int eye = 0;
        final double[] middle = new double[AXES];
        final double[] sizes = new double[AXES];

        void begin(int itsSort, int itsLight, int itsEye, double[] colours) {
            sort = itsSort;
            light = itsLight;
            eye = itsEye;
            System.arraycopy(colours, 0, middle, 0, AXES);
        }

        void setSizes(int x, int y, int z) {
            sizes[0] = x / 10.0;
            sizes[1] = y / 10.0;
            sizes[2] = z / 10.0;
        }

        int sideOf(double[] colours) {
            return sort == 0 ? sideOfBox(colours) : sideOfEllipsoid(colours);
        }

        private int sideOfBox(double[] colours) {
            int side = INSIDE;
            for (int k = 0; k < AXES; k++) {
                double off = colours[k] - middle[k];
                if (off > sizes[k] || off < -sizes[k]) {
                    return OUTSIDE;
                }
                if (off == sizes[k] || off == -sizes[k]) {
                    side = BORDER;
                }
            }
            return side;
        }

        private int sideOfEllipsoid(double[] colours) {
            double sum = 0.0;
            for (int k = 0; k < AXES; k++) {
                double off = colours[k] - middle[k];
                sum = sum + off * off / (sizes[k] * sizes[k]);
            }
            return sum < 1.0 ? INSIDE : sum == 1.0 ? BORDER : OUTSIDE;
        }
    }

    /** Lights, eyes and the measure; colours and gaps are under the light and for the eye aimed at last. */
    private static final class Sight {
        private static final int MOST_WEIGHT = 1000000;

        private final int[][] lights = new int[LIGHTS][BANDS];
        private final int[][] eyes = new int[EYES * AXES][BANDS];
        private double a = 1.0;
        private double b = 1.0;
        private double c = 1.0;
        private final double[][] weights = new double[AXES][BANDS];
        private final double[] totals = new double[AXES];
        private final double[] goal = new double[AXES];
        private final double[] seen = new double[AXES];

        static boolean isOne(int light, int eye) {
            return light >= 0 && light < LIGHTS && eye >= 0 && eye < EYES;
        }

        boolean setLight(int light, int band, int weight) {
            if (light < 0 || light >= LIGHTS || !isWeight(band, weight)) {
                return false;
            }
            lights[light][band] = weight;
            return true;
        }

        boolean setEye(int eye, int axis, int band, int weight) {
            if (eye < 0 || eye >= EYES || axis < 0 || axis >= AXES || !isWeight(band, weight)) {
                return false;
            }
            eyes[eye * AXES + axis][band] = weight;
            return true;
        }

        private static boolean isWeight(int band, int weight) {
            return band >= 0 && band < BANDS && weight >= 0 && weight <= MOST_WEIGHT;
        }

        void setMeasure(int newA, int newB, int newC) {
            a = newA;
            b = newB;
            c = newC;
        }

        void aim(int light, int eye) {
            for (int x = 0; x < AXES; x++) {
                long total = 0L;
                for (int k = 0; k < BANDS; k++) {
                    long weight = (long) lights[light][k] * eyes[eye * AXES + x][k];
                    weights[x][k] = weight;
                    total += weight;
                }
                totals[x] = total;
            }
        }

        void setGoal(float[] spectrum) {
            System.arraycopy(coloursOf(spectrum), 0, goal, 0, AXES);
        }

        double gapTo(float[] spectrum) {
            coloursOf(spectrum);
            double u = goal[0] - seen[0];
            double v = goal[1] - seen[1];
            double w = goal[2] - seen[2];
            return a * u * u + b * v * v + c * w * w;
        }

        /** The three colours; the next call writes over them. */
        double[] coloursOf(float[] spectrum) {
            double f0 = rootOfRatio(spectrum, 0);
            double f1 = rootOfRatio(spectrum, 1);
            double f2 = rootOfRatio(spectrum, 2);
            seen[0] = 100 * f1;
            seen[1] = 250 * (f0 - f1);
            seen[2] = 100 * (f1 - f2);
            return seen;
        }

        private double rootOfRatio(float[] spectrum, int axis) {
            if (totals[axis] == 0) {
                return 0.0;
            }
            double sum = 0.0;
            for (int k = 0; k < BANDS; k++) {
                sum = sum + spectrum[k] * weights[axis][k];
            }
            return Numbers.rootOf(sum / totals[axis]);
        }
    }

    /** A cloth's quotients, what dyes add to them, and the spectrum that comes of it. */
    private static final class Mix {
        private final double[] quotients = new double[BANDS];
        private final float[] made = new float[BANDS];

        static double quotientOf(float band) {
            double r = band;
            double s = r > 0.0005 ? r : 0.0005;
            return (1 - s) * (1 - s) / (2 * s);
        }

        void begin(float[] cloth) {
            for (int k = 0; k < BANDS; k++) {
                quotients[k] = quotientOf(cloth[k]);
            }
        }

        void add(Dye dye, double grams) {
            if (dye.strengths == 0 || grams <= 0) {
                return;
            }
            int next = dye.firstFrom(grams);
            if (next == 0) {
                addInRatio(dye.own[0], grams / dye.grams[0]);
            } else if (next == dye.strengths) {
                addInRatio(dye.own[next - 1], grams / dye.grams[next - 1]);
            } else {
                double below = dye.grams[next - 1];
                double above = dye.grams[next];
                addBetween(dye.own[next - 1], dye.own[next], (grams - below) / (above - below));
            }
        }

        private void addInRatio(double[] own, double ratio) {
            for (int k = 0; k < BANDS; k++) {
                quotients[k] = quotients[k] + own[k] * ratio;
            }
        }

        private void addBetween(double[] below, double[] above, double ratio) {
            for (int k = 0; k < BANDS; k++) {
                quotients[k] = quotients[k] + (below[k] + (above[k] - below[k]) * ratio);
            }
        }

        /** The spectrum of the mix; the next result writes over it. */
        float[] result() {
            for (int k = 0; k < BANDS; k++) {
                double q = quotients[k];
                double band = 1 + q - Numbers.rootOf(q * q + 2 * q);
                made[k] = (float) (band < 0 ? 0.0 : band);
            }
            return made;
        }
    }

    /** The tries of a search in their order (sets of what is offered, and grams of each), and the best so far. */
    private static final class Search {
        /** Above the 298 sets of up to three of 12 dyes, and the 210 of up to two of 20 lots. */
        private static final int MOST_SETS = 1000;

        private final int[] names = new int[LOTS];
        private final int[] limits = new int[LOTS];
        private final int[] needs = new int[LOTS];
        private int offered = 0;
        private int most = 0;
        private int step = 0;
        private int room = 0;

        private final int[] set = new int[MOST_IN_RECIPE];
        private final int[] times = new int[MOST_IN_RECIPE];
        int size = 0;
        private int tries = 0;
        private boolean isWhole = false;
        boolean ended = false;

        private boolean hasBest = false;
        private final int[] bestNames = new int[MOST_IN_RECIPE];
        private final int[] bestGrams = new int[MOST_IN_RECIPE];
        int bestSize = 0;
        double bestGap = 0.0;
        long bestCost = 0L;

        /** The first try is the empty set. */
        void begin(int mostInSet, int stepGrams, int itsRoom) {
            offered = 0;
            most = mostInSet;
            step = stepGrams;
            room = itsRoom;
            size = 0;
            tries = 0;
            hasBest = false;
        }

        /** Offers one in the order of numbers, at most limit times the step; need is the room that it takes. */
        void offer(int name, int limit, int need) {
            if (limit < 1 || offered >= LOTS) {
                return;
            }
            names[offered] = name;
            limits[offered] = limit;
            needs[offered] = need;
            offered++;
        }

        int nameAt(int p) {
            return names[set[p]];
        }

        int gramsAt(int p) {
            return times[p] * step;
        }

        int gramsOf(int name) {
            for (int p = 0; p < size; p++) {
                if (nameAt(p) == name) {
                    return gramsAt(p);
                }
            }
            return 0;
        }

        /** Goes to the next try; false if there is none. */
        boolean advance() {
            for (int p = size - 1; p >= 0; p--) {
                if (times[p] < limits[set[p]]) {
                    times[p]++;
                    return true;
                }
                times[p] = 1;
            }
            for (int k = 0; k < MOST_SETS; k++) {
                if (!nextSet()) {
                    return false;
                }
                if (hasRoom()) {
                    return true;
                }
            }
            return false;
        }

        private boolean nextSet() {
            for (int p = size - 1; p >= 0; p--) {
                if (set[p] < offered - size + p) {
                    fillFrom(p, set[p] + 1);
                    return true;
                }
            }
            if (size >= most || size >= offered) {
                return false;
            }
            size++;
            fillFrom(0, 0);
            return true;
        }

        private void fillFrom(int place, int first) {
            for (int p = place; p < size; p++) {
                set[p] = first + p - place;
            }
            for (int p = 0; p < size; p++) {
                times[p] = 1;
            }
        }

        private boolean hasRoom() {
            int needed = 0;
            for (int p = 0; p < size; p++) {
                needed += needs[set[p]];
            }
            return needed <= room;
        }

        /** A gap that a try has to be below, without being a try. */
        void setBound(double gap) {
            keep(gap, 0L);
        }

        void judge(double gap, long cost) {
            tries++;
            if (!hasBest || gap < bestGap || (gap == bestGap && cost < bestCost)) {
                keep(gap, cost);
            }
        }

        private void keep(double gap, long cost) {
            hasBest = true;
            bestGap = gap;
            bestCost = cost;
            bestSize = size;
            for (int p = 0; p < size; p++) {
                bestNames[p] = nameAt(p);
                bestGrams[p] = gramsAt(p);
            }
        }

        void end() {
            isWhole = tries < TRIES || !advance();
            ended = true;
        }

        int resultOf(int what) {
            if (!ended || what < 0) {
                return NONE;
            }
            if (what == 0) {
                return tries;
            }
            if (what == 1) {
                return isWhole ? 1 : 0;
            }
            int p = what / 2 - 1;
            if (p >= bestSize) {
                return NONE;
            }
            return what % 2 == 0 ? bestNames[p] : bestGrams[p];
        }
    }

    /** OUT and THE LETTER. */
    private static final class Mail {
        private static final int BYTES = 68;
        private static final int BYTES_OF_BANDS = 64;

        final int[] outBytes = new int[BYTES];
        int outSize = 0;
        final int[] letterBytes = new int[BYTES];

        int write(float[] spectrum) {
            for (int k = 0; k < BANDS; k++) {
                put(4 * k, Numbers.floatBits(spectrum[k]));
            }
            put(BYTES_OF_BANDS, sumOf(outBytes));
            outSize = BYTES;
            return BYTES;
        }

        boolean hasRightSum() {
            return wordAt(BYTES_OF_BANDS) == sumOf(letterBytes);
        }

        boolean isTakenAll() {
            for (int k = 0; k < BANDS; k++) {
                if (!Numbers.isTaken(wordAt(4 * k))) {
                    return false;
                }
            }
            return true;
        }

        void read(float[] into) {
            for (int k = 0; k < BANDS; k++) {
                into[k] = Numbers.floatOf(wordAt(4 * k));
            }
        }

        private static int sumOf(int[] bytes) {
            int sum = 17;
            for (int k = 0; k < BYTES_OF_BANDS; k++) {
                sum = sum * 31 + bytes[k];
            }
            return sum;
        }

        private void put(int at, int word) {
            for (int k = 0; k < 4; k++) {
                outBytes[at + k] = (word >>> (24 - 8 * k)) & 255;
            }
        }

        private int wordAt(int at) {
            int word = 0;
            for (int k = 0; k < 4; k++) {
                word = (word << 8) | letterBytes[at + k];
            }
            return word;
        }
    }

    /** The latest acts, in a ring: a new one writes over the oldest when there are sixty. */
    private static final class Acts {
        private final int[][] told = new int[ACTS][4];
        private final float[][] kept = new float[ACTS][2 * BANDS];
        private int newest = 0;
        int size = 0;

        /** Notes an act; the row that it answers takes the floats that the act is about to change. */
        float[] note(int kind, int a, int b, int c) {
            newest = (newest + 1) % ACTS;
            size = Math.min(size + 1, ACTS);
            told[newest][0] = kind;
            told[newest][1] = a;
            told[newest][2] = b;
            told[newest][3] = c;
            return kept[newest];
        }

        int[] latest() {
            return told[newest];
        }

        float[] keptOfLatest() {
            return kept[newest];
        }

        void drop() {
            newest = (newest + ACTS - 1) % ACTS;
            size--;
        }
    }
}
