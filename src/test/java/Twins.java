import java.util.Arrays;
import java.util.LinkedHashMap;
import java.util.Map;

/** Objects with something in every part of them, and what can be asked out of such an object. */
final class Twins {
    /** A call on an object. */
    interface Call {
        Object of(PolyRegisters x);
    }

    static final String NINES = "999999999999999999";
    // What rich() leaves to be undone.
    static final int DEPTH = 6;

    private Twins() {
    }

    /**
     * Registers with 0, with coefficients of 18 digits and without real roots; points; a told fraction; an error
     * position; a text in the buffer and a written one; changes that can be undone, and some that were.
     */
    static PolyRegisters rich(int points) {
        PolyRegisters x = new PolyRegisters();
        Check.read(x, 1, NINES + "*x^12 + " + NINES);
        Check.read(x, 4, "7 - " + NINES + "*x^12");
        Check.read(x, 5, "x^2 + 1");
        for (int i = 0; i < points; i++) {
            x.addPoint(i - 2, 3 * i * i - 100);
        }
        x.setTerm(2, 3, 0);
        for (int i = 0; i < 3; i++) {
            x.add(3, 0, 2);
        }
        x.subtract(3, 3, 3);
        x.undo();
        x.undo();
        x.undo();
        x.subtract(3, 3, 3);
        Check.answer(() -> Check.read(x, 3, "x+*"));
        x.value(2, 3, 7);
        x.write(5);
        Check.put(x, "x^3+5");
        return x;
    }

    /** The registers and points by few calls: the degree and the lowest bits of a value of each. */
    static String state(PolyRegisters x) {
        StringBuilder text = new StringBuilder();
        for (int a = 0; a < 6; a++) {
            text.append(x.degree(a)).append(':');
            x.value(a, 17, 1);
            text.append(x.low(false)).append(' ');
        }
        return text.append(x.pointCount()).append(" points").toString();
    }

    /** All that an object tells about itself; some 250 calls, which change it. */
    static Map<String, String> all(PolyRegisters x) {
        Map<String, String> parts = new LinkedHashMap<>();
        parts.put("written text", writtenNow(x));
        parts.put("told number", Check.told(x, 1) + " " + x.low(false) + " " + x.low(true));
        parts.put("error position", "" + x.errorPosition());
        parts.put("registers and points", state(x));
        parts.put("points", Check.answer(() -> x.interpolate(0)) + " " + state(x));
        parts.put("buffer", x.append(0, 0, 0, 0, 0) + " " + Check.answer(() -> x.read(1)) + " " + x.errorPosition() + " " + state(x));
        StringBuilder undone = new StringBuilder();
        int left = 0;
        for (int i = 0; i < 9 && left != PolyRegisters.NONE; i++) {
            left = x.undo();
            undone.append(left).append(": ").append(state(x)).append("; ");
        }
        parts.put("undo", undone.toString());
        return parts;
    }

    /** Compares all that an object tells, but for the named parts, with what is due. */
    static void same(String what, Map<String, String> due, PolyRegisters x, String... but) {
        Map<String, String> found = all(x);
        for (String part : due.keySet()) {
            if (!Arrays.asList(but).contains(part)) {
                Check.due(what + " leaves the " + part, due.get(part), () -> found.get(part));
            }
        }
    }

    /** The written text, and the exception behind its end. */
    static String writtenNow(PolyRegisters x) {
        StringBuilder text = new StringBuilder();
        String next = Check.answer(() -> x.writtenAt(0));
        for (int i = 1; i < 200 && !next.startsWith("throws"); i++) {
            int place = i;
            text.append((char) Integer.parseInt(next));
            next = Check.answer(() -> x.writtenAt(place));
        }
        return text + next;
    }
}
