import java.util.List;

/**
 * Two objects after the same calls. One of them is then asked something that must not change it, and has to look
 * like the other one behind it.
 */
final class Twins {
    /** The trouble that Bench.rich() leaves: that of the stock, which but one call tells. */
    static final int KEPT = 4;
    private static final int MOST_SHOWN = 3;

    interface Calls {
        void on(ColourHouse x);
    }

    interface Call {
        long on(ColourHouse x);
    }

    private final Check check;

    Twins(Check check) {
        this.check = check;
    }

    /** A call that is refused after these: its answer, the trouble behind it, and that nothing else has changed. */
    void refused(Calls ahead, String call, Call c, long answer, int trouble) {
        ColourHouse plain = new ColourHouse();
        ColourHouse asked = new ColourHouse();
        ahead.on(plain);
        ahead.on(asked);
        check.same(call, c.on(asked), answer);
        check.same("trouble() behind " + call, asked.trouble(), trouble);
        List<String> due = Look.at(plain);
        List<String> got = Look.at(asked);
        int shown = 0;
        for (int n = 0; n < Math.max(due.size(), got.size()) && shown < MOST_SHOWN; n++) {
            String dueHere = n < due.size() ? due.get(n) : "nothing";
            String gotHere = n < got.size() ? got.get(n) : "nothing";
            if (!dueHere.equals(gotHere)) {
                shown++;
                check.wrong("behind " + call + ": " + gotHere + ", due is " + dueHere);
            }
        }
        check.yes("behind " + call + " nothing else has changed", shown == 0);
    }

    /** The same on Bench.rich() after some calls more. */
    void refusedOnRich(Calls more, String call, Call c, long answer, int trouble) {
        refused(x -> {
            Bench.rich(x);
            more.on(x);
        }, call, c, answer, trouble);
    }

    void refusedOnRich(String call, Call c, long answer, int trouble) {
        refused(Bench::rich, call, c, answer, trouble);
    }
}
