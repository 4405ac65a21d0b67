import java.lang.reflect.InvocationTargetException;
import java.lang.reflect.Method;
import java.util.ArrayList;
import java.util.Arrays;
import java.util.Comparator;
import java.util.List;
import java.util.NoSuchElementException;
import java.util.SplittableRandom;

/** Runs of 512 calls by fixed seeds, each answer compared with the model's. Arguments: [file] runs [first seed]. */
final class ModelTests {
    private static final int CALLS = 512;
    /** What an argument may be whatever the call, now and then. */
    private static final int[] WILD = {-1, 0, 1, 2, 3, 5, 6, 7, 8, 11, 12, 13, 15, 16, 20, 39, 40, 67, 68, 100, 101, 255,
        256, 1000, 1001, 10000, 10001, 100000, 100001, 1000000, 1000001, 1000000000, 1000000001,
        Integer.MAX_VALUE, Integer.MIN_VALUE};

    /** Calls that a run makes much more of, so that it comes deep into some part of the document. */
    private static final List<List<String>> THEMES = List.of(
        List.of(),
        List.of("lot", "batch", "weigh", "correct", "part", "predict", "weighed"),
        List.of("lot", "weigh", "correct"),
        List.of("dye", "strength", "cents", "part", "predict", "recipe"),
        List.of("chip", "solid", "inside", "blend", "nearest", "parting", "distance", "measure"),
        List.of("batch", "measured", "passes", "solid", "remeasure", "drift", "pack", "post", "unpack"));

    private final SplittableRandom random;
    private final ColourHouse house = new ColourHouse();
    private final Model model = new Model();
    private final List<String> calls = new ArrayList<>();
    private final List<Method> methods = new ArrayList<>();
    private final int[] weights;
    private int allWeights;
    private boolean same = true;

    public static void main(String[] args) throws Exception {
        int runs = args.length > 1 ? Integer.parseInt(args[1]) : 1500;
        long first = args.length > 2 ? Long.parseLong(args[2]) : 1;
        for (long seed = first; seed < first + runs; seed++) {
            if (!new ModelTests(seed).run()) {
                System.out.println("the seed is " + seed);
                System.exit(1);
            }
        }
        System.out.println("ModelTests: " + runs + " runs of " + CALLS + " calls as the model answers");
    }

    private ModelTests(long seed) {
        random = new SplittableRandom(seed);
        for (Method m : ColourHouse.class.getDeclaredMethods()) {
            if (java.lang.reflect.Modifier.isPublic(m.getModifiers())) {
                methods.add(m);
            }
        }
        methods.sort(Comparator.comparing(Method::getName));
        List<String> theme = THEMES.get((int) Math.floorMod(seed, (long) THEMES.size()));
        weights = new int[methods.size()];
        for (int i = 0; i < weights.length; i++) {
            // each run likes some calls more than others, so that its state grows in a way of its own
            weights[i] = 1 + random.nextInt(8) * random.nextInt(8);
            if (methods.get(i).getName().equals("undo")) {
                weights[i] = 1 + random.nextInt(random.nextInt(4) > 0 ? 10 : 60);
            }
            if (theme.contains(methods.get(i).getName())) {
                weights[i] = 40 + random.nextInt(60);
            }
            allWeights += weights[i];
        }
    }

    private boolean run() throws Exception {
        sights();
        row(0.6);
        call("cloth");
        for (int d = 0; d < 3; d++) {
            call("dye", 0);
            row(0.02);
            call("strength", d, random.nextInt(1, 200));
            call("lot", d, random.nextInt(1, 20), random.nextInt(1, 20), random.nextInt(1, 1000000));
        }
        call("batch", 0, random.nextInt(1, 20));
        goal(random.nextInt(3));
        while (calls.size() < CALLS && same) {
            Method m = any();
            if (random.nextInt(15) == 0) {
                row(m.getName().equals("strength") ? 0.02 : 0.3);
            }
            if (random.nextInt(25) == 0) {
                goal(one(2));
            }
            same &= call(m, arguments(m));
            if (random.nextInt(6) == 0) {
                same &= call("trouble");
            }
            if (m.getName().equals("recipe")) {
                ask("recipeOf", 9);
                ask("recipeBy", 2);
            }
            if (m.getName().equals("correct")) {
                ask("addition", 6);
            }
        }
        return same;
    }

    private void ask(String name, int upTo) throws Exception {
        for (int what = 0; what < upTo; what++) {
            same &= call(name, what);
        }
    }

    private void sights() throws Exception {
        int bands = 2 + random.nextInt(3);
        for (int n = 0; n < bands; n++) {
            int k = random.nextInt(16);
            for (int light = 0; light < 2; light++) {
                call("light", light, k, random.nextInt(1, 1000001));
            }
            for (int axis = 0; axis < 3; axis++) {
                call("eye", 0, axis, k, random.nextInt(1000001));
            }
        }
    }

    /** A chip that a dye and perhaps a lot make of a cloth: a goal that can be come near to. */
    private void goal(int dye) throws Exception {
        same &= call("part", false, dye, random.nextInt(1, 100));
        if (random.nextBoolean()) {
            same &= call("part", true, one(4), random.nextInt(1, 100));
        }
        same &= call("predict", one(1));
        same &= call("pick", 3, 0);
        same &= call("chip");
    }

    private void row(double dark) throws Exception {
        for (int k = 0; k < 4; k++) {
            if (random.nextInt(3) != 0) {
                same &= call("bands", k, shade(dark), shade(dark), shade(dark), shade(dark));
            }
        }
    }

    private int shade(double dark) {
        return random.nextInt(12) == 0 ? taken() : Float.floatToRawIntBits((float) (dark + 0.4 * random.nextDouble()));
    }

    private int taken() {
        switch (random.nextInt(12)) {
            case 0:
                return random.nextInt(0x40000001);
            case 1:
                return new int[] {0, 1, 0x40000000, 0x3f800000, 0x3a03126f, 0x3f800001, 0x007fffff}[random.nextInt(7)];
            default:
                return Float.floatToRawIntBits((float) (0.02 + 0.98 * random.nextDouble()));
        }
    }

    private Method any() {
        int n = random.nextInt(allWeights);
        for (int i = 0; i < weights.length; i++) {
            n -= weights[i];
            if (n < 0) {
                return methods.get(i);
            }
        }
        return methods.get(0);
    }

    private Method named(String name) {
        return methods.stream().filter(m -> m.getName().equals(name)).findFirst().orElseThrow();
    }

    private boolean call(String name, Object... arguments) throws Exception {
        return call(named(name), arguments);
    }

    /** One that is there, most times. */
    private int one(int kind) {
        int n = model.count(kind);
        return n == 0 || random.nextInt(25) == 0 ? random.nextInt(-1, n + 2) : random.nextInt(n);
    }

    private int upTo(int least, int most) {
        int pick = random.nextInt(40);
        return pick == 0 ? least : pick == 1 ? most : pick == 2 ? least - 1 : pick == 3 ? most + 1
                : random.nextInt(least, most + 1);
    }

    private int light() {
        return random.nextInt(4) == 0 ? upTo(0, 5) : random.nextInt(2);
    }

    private int eye() {
        return random.nextInt(8) == 0 ? upTo(0, 1) : 0;
    }

    private Object[] arguments(Method m) {
        Object[] a = usual(m.getName());
        Class<?>[] types = m.getParameterTypes();
        if (a.length != types.length) {
            throw new IllegalStateException(m.getName());
        }
        for (int i = 0; i < a.length; i++) {
            if (types[i] == int.class && random.nextInt(60) == 0) {
                a[i] = WILD[random.nextInt(WILD.length)];
            }
        }
        return a;
    }

    private static Object[] of(Object... a) {
        return a;
    }

    private Object[] usual(String name) {
        switch (name) {
            case "bands":
                return of(upTo(0, 3), taken(), taken(), taken(), taken());
            case "dye":
                return of(one(1));
            case "strength": {
                int dye = one(2);
                int n = Math.max(0, model.told(dye, 10));
                return of(dye, (int) (Math.pow(7, n) * (1 + random.nextDouble() * 5)));
            }
            case "cents":
                return of(one(2), random.nextBoolean() ? upTo(0, 3) : upTo(0, 100000));
            case "band":
                return sorted(upTo(0, 15));
            case "pick":
            case "pack":
                return sorted();
            case "blend": {
                int down = upTo(1, 1000);
                return of(one(0), one(0), random.nextInt(-1, Math.max(1, down) + 2), down);
            }
            case "part": {
                boolean lot = random.nextBoolean();
                return of(lot, one(lot ? 4 : 2), random.nextBoolean() ? upTo(0, 1000000) : upTo(0, 900));
            }
            case "predict":
                return of(one(1));
            case "light":
                return of(light(), upTo(0, 15), upTo(0, 1000000));
            case "eye":
                return of(upTo(0, 1), upTo(0, 2), upTo(0, 15), upTo(0, 1000000));
            case "measure":
                return of(upTo(1, 100), upTo(1, 100), upTo(1, 100));
            case "colour":
                return sorted(light(), eye(), upTo(0, 2));
            case "distance":
                return of(one(0), one(0), light(), eye());
            case "nearest":
                return of(light(), eye(), one(0));
            case "parting":
                return of(one(0), one(0), eye());
            case "solid":
                return of(upTo(0, 1), one(0), light(), eye(), upTo(1, 1000), upTo(1, 1000), upTo(1, 1000));
            default:
                return usualToo(name);
        }
    }

    private Object[] usualToo(String name) {
        switch (name) {
            case "inside":
                return of(one(3), one(0));
            case "recipe": {
                int set = random.nextInt(1 << model.count(2));
                return of(one(0), one(1), light(), eye(), set, upTo(1, 3), small(10000), upTo(1, 12));
            }
            case "recipeOf":
            case "recipeBy":
            case "addition":
            case "count":
                return of(random.nextInt(-1, 10));
            case "lot":
                return of(one(2), upTo(1, 1000), upTo(1, 1000), random.nextBoolean() ? upTo(1, 1000000000) : upTo(1, 90000));
            case "batch":
                return of(one(1), upTo(1, 1000));
            case "weigh":
                return of(one(5), one(4), small(100000));
            case "correct":
                return of(one(5), one(0), light(), eye(), small(10000), upTo(1, 12));
            case "measured":
                return of(one(5));
            case "passes":
                return of(one(5), one(3));
            case "told": {
                int what = random.nextInt(-1, 13);
                return of(one(what < 4 ? 4 : what < 9 ? 5 : 2), what);
            }
            case "weighed":
                return of(one(5), random.nextInt(-1, 9), random.nextBoolean());
            case "remeasure":
            case "drift":
                return of(one(0));
            case "out":
                return of(upTo(0, 67));
            case "letter":
                return of(upTo(0, 67), upTo(0, 255));
            default:
                return of();
        }
    }

    private int small(int most) {
        switch (random.nextInt(5)) {
            case 0:
                return upTo(1, most);
            case 1:
                return upTo(1, most / 20);
            default:
                return upTo(1, 40);
        }
    }

    /** A sort and a number of it, with others behind them. */
    private Object[] sorted(Object... behind) {
        int sort = random.nextInt(10) == 0 ? upTo(0, 5) : random.nextInt(6);
        int kind = sort == 2 ? 1 : sort == 5 ? 5 : 0;
        Object[] a = Arrays.copyOf(of(sort, one(kind)), 2 + behind.length);
        System.arraycopy(behind, 0, a, 2, behind.length);
        return a;
    }

    private static Object answer(Object on, Method m, Object[] arguments) throws Exception {
        try {
            return m.invoke(on, arguments);
        } catch (InvocationTargetException e) {
            if (m.getName().equals("out") && e.getCause() instanceof NoSuchElementException) {
                return "throws";
            }
            throw new IllegalStateException(m.getName() + Arrays.toString(arguments), e.getCause());
        }
    }

    /** Nothing is promised of calls beyond the last, so that none is made. */
    private boolean call(Method m, Object[] arguments) throws Exception {
        if (calls.size() >= CALLS) {
            return same;
        }
        Method its = Model.class.getDeclaredMethod(m.getName(), m.getParameterTypes());
        Object due = answer(model, its, arguments);
        Object got;
        try {
            got = answer(house, m, arguments);
        } catch (IllegalStateException e) {
            got = e.getCause();
        }
        calls.add(m.getName() + Arrays.toString(arguments) + " = " + due);
        if (due.equals(got)) {
            return true;
        }
        for (String c : calls) {
            System.out.println(c);
        }
        System.out.println("the last one answered " + got);
        return false;
    }
}
