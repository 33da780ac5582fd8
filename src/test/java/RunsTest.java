import java.lang.reflect.InvocationTargetException;
import java.lang.reflect.Method;
import java.math.BigInteger;
import java.util.ArrayList;
import java.util.Arrays;
import java.util.HashMap;
import java.util.List;
import java.util.Map;

/** Long runs of calls that a counter makes up, each answer compared with the model's. */
public final class RunsTest {
    private static final int RUNS = 2500;
    // An object is used for at most 512 calls: what a run ends with takes 180 of them, and what a step compares up to 120.
    private static final int CALLS = 212;
    private static final Map<String, Method> MINE = new HashMap<>();
    private static final Map<String, Method> MODELS = new HashMap<>();
    private static final Map<String, Integer> ANSWERS = new HashMap<>();
    private static final int[] PRIMES = {2, 3, 5, 7, 11, 13, 53, 89, 97};

    private static long seed;
    private static int wrong;
    private static PolyRegisters mine;
    private static Model model;
    private static int calls;
    private static final List<String> LOG = new ArrayList<>();

    public static void main(String[] args) throws Exception {
        for (Method m : PolyRegisters.class.getDeclaredMethods()) {
            if (java.lang.reflect.Modifier.isPublic(m.getModifiers())) {
                MINE.put(m.getName(), m);
                Method other = Model.class.getDeclaredMethod(m.getName(), m.getParameterTypes());
                MODELS.put(m.getName(), other);
            }
        }
        int runs = args.length > 0 ? Integer.parseInt(args[0]) : RUNS;
        long first = args.length > 1 ? Long.parseLong(args[1]) : 1;
        for (int run = 0; run < runs && wrong == 0; run++) {
            seed = (first + run) * 7919L;
            play(run);
        }
        for (String name : MINE.keySet()) {
            if (runs >= RUNS && !ANSWERS.containsKey(name + " answered")) {
                System.out.println("no run got an answer of " + name);
                wrong++;
            }
        }
        if (args.length > 0) {
            System.out.println(new java.util.TreeMap<>(ANSWERS));
        }
        System.out.println((wrong == 0 ? runs : 0) + " passed, " + wrong + " failed");
        System.exit(wrong == 0 ? 0 : 1);
    }

    private static void play(int run) throws Exception {
        mine = new PolyRegisters();
        model = new Model();
        LOG.clear();
        calls = 0;
        int kind = run % 5;
        while (calls < CALLS && wrong == 0) {
            callOne(kind);
        }
        for (int a = 0; a < 6 && wrong == 0; a++) {
            call("write", a);
            for (int i = 0; i <= 12; i++) {
                call("coefficient", a, i);
                call("low", false);
            }
        }
        call("errors");
        for (int i = 0; i < 9; i++) {
            call("undo");
        }
        if (calls > 512) {
            wrong++;
            System.out.println("a run has " + calls + " calls");
        }
        if (wrong != 0) {
            System.out.println("run " + run + ": " + LOG.subList(Math.max(0, LOG.size() - 40), LOG.size()));
        }
    }

    private static int any(int bound) {
        seed = seed * 6364136223846793005L + 1442695040888963407L;
        return (int) ((seed >>> 33) % bound);
    }

    private static int pick(int... all) {
        return all[any(all.length)];
    }

    private static int register() {
        return any(40) == 0 ? pick(-1, 6, Integer.MAX_VALUE, Integer.MIN_VALUE) : any(6);
    }

    private static int exponent() {
        return any(30) == 0 ? pick(-1, 13, Integer.MAX_VALUE, Integer.MIN_VALUE) : any(13);
    }

    private static int prime() {
        return any(6) == 0 ? pick(-3, 0, 1, 4, 9, 49, 91, 95, 98, 101, Integer.MIN_VALUE) : PRIMES[any(PRIMES.length)];
    }

    private static int top() {
        return any(40) == 0 ? pick(-1001, 1001, Integer.MAX_VALUE) : any(3) == 0 ? any(2001) - 1000 : any(13) - 6;
    }

    private static int bottom() {
        return any(40) == 0 ? pick(-1, 0, 1001, Integer.MAX_VALUE) : any(3) == 0 ? any(1000) + 1 : any(4) + 1;
    }

    private static long number(int kind) {
        switch (kind) {
            case 0: return any(7) - 3;
            case 1: return any(2001) - 1000;
            case 2: return (any(1 << 30) - (1 << 29)) * (long) any(1 << 30) * pick(1, 1, 1, 1 << 2);
            case 3: return pick(-1, 1) * (999_999_999_999_999_999L - any(3));
            default: return any(4) == 0 ? 1_000_000_000_000_000_000L * pick(-1, 1) : any(5) == 0 ? Long.MIN_VALUE : any(3);
        }
    }

    private static void callOne(int kind) throws Exception {
        int[] weights = {30, 8, 6, 10, 26, 10, 10};
        int sum = any(Arrays.stream(weights).sum());
        int group = 0;
        while (sum >= weights[group]) {
            sum -= weights[group++];
        }
        switch (group) {
            case 0: change(kind); break;
            case 1: texts(); break;
            case 2: points(); break;
            case 3: told(); break;
            case 4: ask(); break;
            case 5: build(kind); break;
            default: call("undo"); break;
        }
        if (any(5) == 0) {
            call(any(2) == 0 ? "meanTerms" : "usedShare");
        }
    }

    /** Fills a register with a polynomial of the run's kind. */
    private static void build(int kind) throws Exception {
        int to = any(6);
        int degree = any(4) == 0 ? any(13) : any(5);
        if (any(2) == 0) {
            call("subtract", to, to, to);
            for (int i = 0; i <= degree; i++) {
                if (any(4) != 0 && !isStopped()) {
                    call("setTerm", to, i, number(any(12) == 0 ? any(5) : kind));
                }
            }
        } else {
            product(to, degree, kind);
        }
    }

    /** A product of factors with whole or fractional roots, some of them more than once. */
    private static void product(int to, int degree, int kind) throws Exception {
        int factor = (to + 1) % 6;
        call("power", to, to, 0);
        for (int i = 0; i < degree && i < 7; i++) {
            call("power", factor, factor, 0);
            int width = pick(3, 10, 1000);
            call("setTerm", factor, 0, (long) any(width) - width / 2);
            call("setTerm", factor, 1, (long) any(width) - width / 3);
            if (any(5) == 0) {
                call("setTerm", factor, 2, (long) any(width) - width / 2);
            }
            if (any(4) == 0) {
                call("power", factor, factor, any(3) + 1);
            }
            call("multiply", to, to, factor);
        }
    }

    private static void change(int kind) throws Exception {
        int to = register();
        int a = register();
        int b = register();
        switch (any(14)) {
            case 0: call("add", to, a, b); break;
            case 1: call("subtract", to, a, b); break;
            case 2: call("multiply", to, a, b); break;
            case 3: call("power", to, a, any(3) == 0 ? exponent() : any(4)); break;
            case 4: call("derive", to, a); break;
            case 5: call("substitute", to, a, b); break;
            case 6: case 7: call("divide", to, register(), a, b); break;
            case 8: case 9: call("gcd", to, a, b); break;
            case 10: call("primitive", to, a); break;
            case 11: call("simple", to, a); break;
            case 12: call("residue", to, a, prime()); break;
            default: call("setTerm", to, exponent(), number(any(3) == 0 ? any(5) : kind)); break;
        }
    }

    private static void points() throws Exception {
        switch (any(8)) {
            case 0: call("clearPoints"); break;
            case 1: case 2: call("interpolate", register()); break;
            case 3: call("pointCount"); break;
            default: call("addPoint", any(20) == 0 ? pick(-10, 10) : any(19) - 9,
                any(20) == 0 ? pick(-1000, 1000) : any(2) == 0 ? any(1999) - 999 : any(9) - 4); break;
        }
    }

    private static void told() throws Exception {
        boolean isBottom = any(3) == 0;
        switch (any(3)) {
            case 0: call("digits", isBottom); break;
            case 1: call("digit", isBottom, any(30) == 0 ? pick(-1, Integer.MAX_VALUE, Integer.MIN_VALUE) : any(20)); break;
            default: call("low", isBottom); break;
        }
    }

    private static void ask() throws Exception {
        int a = register();
        switch (any(22)) {
            case 0: call("degree", a); break;
            case 1: call("terms", a); break;
            case 2: call("exponent", a, any(10) - 1); break;
            case 3: call("coefficient", a, exponent()); break;
            case 4: call("content", a); break;
            case 5: case 6: call("value", a, top(), bottom()); break;
            case 7: call("divides", a, register()); break;
            case 8: call("areSame", a, register()); break;
            case 9: call("agreements", a, register()); break;
            case 10: call("realRoots", a); break;
            case 11: case 12: call("rootsBetween", a, top(), bottom(), top(), bottom()); break;
            case 13: call("sturmLength", a); break;
            case 14: call("changes", a, top(), bottom()); break;
            case 15: case 16: call("closeIn", a, any(12) == 0 ? -1 : any(4), any(10) == 0 ? pick(-1, 21) : any(21)); break;
            case 17: call("fractionRoots", a); break;
            case 18: call("fractionRoot", a, any(7) - 1); break;
            case 19: call("rootsBy", a, prime()); break;
            case 20: call("rootBy", a, prime()); break;
            default: call("write", a); call("writtenAt", any(60) - 1); call("errors"); break;
        }
        compareTold();
    }

    private static void texts() throws Exception {
        StringBuilder text = new StringBuilder();
        sum(text, 0);
        if (any(3) == 0) {
            spoil(text);
        }
        if (any(6) == 0) {
            call("clearText");
        }
        for (int i = 0; i < text.length(); i += 20) {
            int[] packed = new int[5];
            for (int j = 0; j < 20 && i + j < text.length(); j++) {
                packed[j / 4] |= text.charAt(i + j) << 24 - j % 4 * 8;
            }
            call("append", packed[0], packed[1], packed[2], packed[3], packed[4]);
        }
        if (any(10) != 0) {
            call("read", register());
            call("errorPosition");
        }
    }

    private static void spoil(StringBuilder text) {
        String signs = "+-*^()x 0123456789y./\u00ff\u0001";
        for (int i = any(3); i >= 0 && text.length() > 0; i--) {
            int place = any(text.length());
            if (any(2) == 0) {
                text.deleteCharAt(place);
            } else {
                text.insert(place, signs.charAt(any(signs.length())));
            }
        }
    }

    private static void blank(StringBuilder text) {
        if (any(4) == 0) {
            text.append("  ".substring(any(2)));
        }
    }

    private static void sum(StringBuilder text, int depth) {
        blank(text);
        text.append(any(4) == 0 ? "-" : "");
        product(text, depth);
        for (int i = any(depth > 2 ? 2 : 4); i > 0; i--) {
            text.append(any(2) == 0 ? "+" : "-");
            product(text, depth);
        }
    }

    private static void product(StringBuilder text, int depth) {
        for (int i = any(3); i >= 0; i--) {
            blank(text);
            int kind = any(6);
            if (kind == 0 && depth < 10 && text.length() < 120) {
                text.append("(");
                sum(text, depth + 1);
                text.append(")");
            } else if (kind < 3) {
                text.append("x");
            } else {
                text.append(any(10) == 0 ? BigInteger.TEN.pow(any(20)).subtract(BigInteger.valueOf(any(2))).abs().toString() : "" + any(100));
            }
            blank(text);
            if (any(3) == 0) {
                text.append("^").append(any(8) == 0 ? any(15) : any(4));
            }
            blank(text);
            text.append(i > 0 ? "*" : "");
        }
    }

    private static boolean isStopped() {
        return wrong != 0;
    }

    private static void call(String name, Object... args) throws Exception {
        if (wrong != 0) {
            return;
        }
        String due = answer(MODELS.get(name), model, args);
        String got = answer(MINE.get(name), mine, args);
        calls++;
        LOG.add(name + Arrays.toString(args) + " = " + due);
        ANSWERS.merge(name + (due.startsWith("throws") ? " " + due : " answered"), 1, Integer::sum);
        if (!due.equals(got)) {
            wrong++;
            System.out.println(name + Arrays.toString(args) + " answered " + got + ", due is " + due);
        }
    }

    private static String answer(Method method, Object on, Object[] args) throws Exception {
        method.setAccessible(true);
        try {
            return String.valueOf(method.invoke(on, args));
        } catch (InvocationTargetException thrown) {
            Throwable cause = thrown.getCause();
            if (cause instanceof Error) {
                throw (Error) cause;
            }
            return "throws " + cause.getClass().getName();
        }
    }

    private static void compareTold() throws Exception {
        for (boolean isBottom : new boolean[] {false, true}) {
            call("digits", isBottom);
            call("low", isBottom);
            int count = any(4) == 0 ? model.digits(isBottom) : 0;
            calls += count;
            for (int i = 0; i < count && wrong == 0; i++) {
                if (model.digit(isBottom, i) != mine.digit(isBottom, i)) {
                    wrong++;
                    System.out.println("digit " + i + " of the told number is wrong");
                }
            }
        }
    }
}
