/** Counts and prints the answers that are not as due. */
final class Check {
    private int right = 0;
    private int wrong = 0;
    private String promise = "";
    private String sentence = "";

    void promise(String name) {
        promise = name;
    }

    /** The words of the document that are tested now. */
    void says(String words) {
        sentence = words;
        promise = promise + " (\"" + words + "\")";
    }

    String takeSentence() {
        String said = sentence;
        sentence = "";
        return said;
    }

    void same(String call, long got, long due) {
        if (got == due) {
            right++;
            return;
        }
        wrong++;
        System.out.println(promise + ": " + call + " answered " + got + ", due is " + due);
    }

    /** Something that is wrong, told in words. */
    void wrong(String what) {
        wrong++;
        System.out.println(promise + ": " + what);
    }

    void yes(String call, boolean got) {
        same(call, got ? 1 : 0, 1);
    }

    void no(String call, boolean got) {
        same(call, got ? 1 : 0, 0);
    }

    void bits(String call, int got, float due) {
        same(call, got, Float.floatToRawIntBits(due));
    }

    void bits(String call, long got, double due) {
        same(call, got, Double.doubleToRawLongBits(due));
    }

    /** Refused, with the trouble that is due. */
    void refused(String call, ColourHouse x, long got, int trouble) {
        same(call, got, ColourHouse.NONE);
        same("trouble() behind " + call, x.trouble(), trouble);
    }

    void denied(String call, ColourHouse x, boolean got, int trouble) {
        no(call, got);
        same("trouble() behind " + call, x.trouble(), trouble);
    }

    void end(String name) {
        System.out.println(name + ": " + right + " answers as due, " + wrong + " not");
        if (wrong != 0 || right == 0) {
            System.exit(1);
        }
    }
}
