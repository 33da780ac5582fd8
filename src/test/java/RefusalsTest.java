import java.util.Map;

/**
 * Wrong inputs of all calls: the exception, the one that is listed first where several apply, and that the call changes
 * nothing (section 8), looked at on a twin of the object.
 */
public final class RefusalsTest {
    private static final int[] NO_REGISTERS = {-1, 6, Integer.MIN_VALUE, Integer.MAX_VALUE};
    private static final int[] NO_EXPONENTS = {-1, 13, Integer.MIN_VALUE, Integer.MAX_VALUE};
    private static final int[] NO_TOPS = {-1001, 1001, Integer.MIN_VALUE, Integer.MAX_VALUE};
    private static final int[] NO_BOTTOMS = {-1, 0, 1001, Integer.MIN_VALUE, Integer.MAX_VALUE};
    private static final long LONG_ONE = 1_000_000_000_000_000_000L;
    private static final Map<String, String> DUE = Twins.all(Twins.rich(5));
    private static final Map<String, String> FULL = Twins.all(Twins.rich(6));

    public static void main(String[] args) {
        registers();
        changes();
        divisions();
        terms();
        points();
        tellingCalls();
        digits();
        fractions();
        roots();
        primes();
        texts();
        reads();
        Check.end();
    }

    private static void refused(String what, String exception, Twins.Call call) {
        refused(what, exception, 5, call);
    }

    private static void refused(String what, String exception, int points, Twins.Call call) {
        refused(what, exception, Twins.rich(points), points == 6 ? FULL : DUE, call);
    }

    private static void refused(String what, String exception, PolyRegisters x, Map<String, String> due, Twins.Call call) {
        Check.due(what, exception, () -> call.of(x));
        Twins.same(what, due, x);
    }

    /** All other arguments are in order, or wrong in a way that is listed later. */
    private static void registers() {
        for (int w : NO_REGISTERS) {
            String to = ": register to " + w;
            String a = ": register a " + w;
            String b = ": register b " + w;
            refused("2" + to, Check.INDEX, x -> x.add(w, 1, 1));
            refused("2" + a, Check.INDEX, x -> x.add(0, w, 1));
            refused("2" + b, Check.INDEX, x -> x.add(0, 1, w));
            refused("3" + to, Check.INDEX, x -> x.subtract(w, 1, 4));
            refused("3" + a, Check.INDEX, x -> x.subtract(0, w, 4));
            refused("3" + b, Check.INDEX, x -> x.subtract(0, 1, w));
            refused("4" + to, Check.INDEX, x -> x.multiply(w, 1, 1));
            refused("4" + a, Check.INDEX, x -> x.multiply(0, w, 1));
            refused("4" + b, Check.INDEX, x -> x.multiply(0, 1, w));
            refused("5" + to, Check.INDEX, x -> x.power(w, 1, 13));
            refused("5" + a, Check.INDEX, x -> x.power(0, w, -1));
            refused("6" + to, Check.INDEX, x -> x.derive(w, 1));
            refused("6" + a, Check.INDEX, x -> x.derive(0, w));
            refused("7" + to, Check.INDEX, x -> x.substitute(w, 1, 1));
            refused("7" + a, Check.INDEX, x -> x.substitute(0, w, 1));
            refused("7" + b, Check.INDEX, x -> x.substitute(0, 1, w));
            refused("8: quotient " + w, Check.INDEX, x -> x.divide(w, w, 1, 3));
            refused("8: quotient alone " + w, Check.INDEX, x -> x.divide(w, 0, 1, 2));
            refused("8: remainder " + w, Check.INDEX, x -> x.divide(0, w, 1, 3));
            refused("8" + a, Check.INDEX, x -> x.divide(0, 0, w, 3));
            refused("8" + b, Check.INDEX, x -> x.divide(0, 0, 1, w));
            refused("9" + to, Check.INDEX, x -> x.gcd(w, 0, 1));
            refused("9" + a, Check.INDEX, x -> x.gcd(0, w, 1));
            refused("9" + b, Check.INDEX, x -> x.gcd(0, 1, w));
            refused("10" + to, Check.INDEX, x -> x.primitive(w, 1));
            refused("10" + a, Check.INDEX, x -> x.primitive(0, w));
            refused("11" + to, Check.INDEX, x -> x.simple(w, 3));
            refused("11" + a, Check.INDEX, x -> x.simple(0, w));
            refused("12" + to, Check.INDEX, x -> x.residue(w, 1, 4));
            refused("12" + a, Check.INDEX, x -> x.residue(0, w, 4));
            refused("13" + to, Check.INDEX, x -> x.setTerm(w, 13, LONG_ONE));
            refused("13" + to + ", a term too long", Check.INDEX, x -> x.setTerm(w, 12, LONG_ONE));
            refused("14" + to, Check.INDEX, x -> x.read(w));
            refused("17" + to, Check.INDEX, x -> x.interpolate(w));
            refused("19" + a, Check.INDEX, x -> x.degree(w));
            refused("20" + a, Check.INDEX, x -> x.terms(w));
            refused("21" + a, Check.INDEX, x -> x.exponent(w, 0));
            refused("22" + a, Check.INDEX, x -> x.coefficient(w, 13));
            refused("23" + a, Check.INDEX, x -> x.content(w));
            refused("24" + a, Check.INDEX, x -> x.value(w, 1001, 0));
            refused("25" + a, Check.INDEX, x -> x.divides(w, 0));
            refused("25" + b, Check.INDEX, x -> x.divides(0, w));
            refused("25" + b + ", divided by 0", Check.INDEX, x -> x.divides(3, w));
            refused("26" + a, Check.INDEX, x -> x.areSame(w, 0));
            refused("26" + b, Check.INDEX, x -> x.areSame(0, w));
            refused("26: both " + w, Check.INDEX, x -> x.areSame(w, w));
            refused("27" + a, Check.INDEX, x -> x.agreements(w, 0));
            refused("27" + b, Check.INDEX, x -> x.agreements(0, w));
            refused("31" + a, Check.INDEX, x -> x.realRoots(w));
            refused("32" + a, Check.INDEX, x -> x.rootsBetween(w, 1, 1, 0, 0));
            refused("33" + a, Check.INDEX, x -> x.sturmLength(w));
            refused("34" + a, Check.INDEX, x -> x.changes(w, 0, 0));
            refused("35" + a, Check.INDEX, x -> x.closeIn(w, 0, 21));
            refused("36" + a, Check.INDEX, x -> x.fractionRoots(w));
            refused("37" + a, Check.INDEX, x -> x.fractionRoot(w, 0));
            refused("38" + a, Check.INDEX, x -> x.rootsBy(w, 4));
            refused("39" + a, Check.INDEX, x -> x.rootBy(w, 4));
            refused("44" + a, Check.INDEX, x -> x.write(w));
        }
    }

    /** A polynomial that does not fit (section 1). */
    private static void changes() {
        refused("2: 19 digits", Check.STATE, x -> x.add(0, 1, 1));
        refused("2: 19 digits below 0", Check.STATE, x -> x.add(3, 4, 4));
        refused("3: 19 digits", Check.STATE, x -> x.subtract(0, 1, 4));
        refused("3: 19 digits below 0", Check.STATE, x -> x.subtract(1, 4, 1));
        refused("4: 36 digits", Check.STATE, x -> x.multiply(0, 1, 1));
        refused("4: degree 14", Check.STATE, x -> x.multiply(5, 5, 4));
        refused("5: degree 24", Check.STATE, x -> x.power(0, 4, 2));
        refused("5: degree 14", Check.STATE, x -> x.power(5, 5, 7));
        refused("6: 20 digits", Check.STATE, x -> x.derive(0, 1));
        refused("7: degree 24", Check.STATE, x -> x.substitute(1, 1, 5));
        refused("7: 36 digits", Check.STATE, x -> x.substitute(0, 0, 1));
        for (int w : NO_EXPONENTS) {
            refused("5: exponent " + w, Check.ARGUMENT, x -> x.power(0, 1, w));
            refused("13: exponent " + w, Check.ARGUMENT, x -> x.setTerm(0, w, LONG_ONE));
            refused("13: exponent " + w + " of 0", Check.ARGUMENT, x -> x.setTerm(3, w, 0));
        }
        for (long w : new long[] {LONG_ONE, -LONG_ONE, Long.MAX_VALUE, Long.MIN_VALUE, Long.MIN_VALUE + 1}) {
            for (int e : new int[] {0, 6, 12}) {
                refused("13: " + w + " * x^" + e, Check.STATE, x -> x.setTerm(3, e, w));
            }
        }
        refused("11: 0", Check.ARITHMETIC, x -> x.simple(0, 3));
        refused("11: 0 in place", Check.ARITHMETIC, x -> x.simple(3, 3));
    }

    private static void divisions() {
        for (int i = 0; i < 6; i++) {
            int same = i;
            refused("8: same register, by 0", Check.ARGUMENT, x -> x.divide(same, same, 1, 3));
            refused("8: same register, too long", Check.ARGUMENT, x -> x.divide(same, same, 4, 1));
            refused("8: by 0", Check.ARITHMETIC, x -> x.divide(same, (same + 1) % 6, 1, 3));
        }
        refused("8: 0 by 0", Check.ARITHMETIC, x -> x.divide(0, 1, 3, 3));
        refused("8: quotient and remainder too long", Check.STATE, x -> x.divide(0, 3, 1, 2));
        refused("8: in place, too long", Check.STATE, x -> x.divide(1, 2, 1, 2));
        // n is 1: the quotient has 18 digits, the remainder 36.
        refused("8: remainder too long", Check.STATE, x -> x.divide(0, 3, 1, 4));
    }

    private static void terms() {
        for (int w : new int[] {-1, 2, 3, 12, 13, Integer.MIN_VALUE, Integer.MAX_VALUE}) {
            refused("21: term " + w, Check.INDEX, x -> x.exponent(0, w));
        }
        refused("21: term of 0", Check.INDEX, x -> x.exponent(3, 0));
    }

    private static void points() {
        for (int w : new int[] {-10, 10, Integer.MIN_VALUE, Integer.MAX_VALUE}) {
            refused("15: x " + w, Check.ARGUMENT, x -> x.addPoint(w, 0));
            refused("15: x " + w + ", full", Check.ARGUMENT, 6, x -> x.addPoint(w, 0));
        }
        for (int w : new int[] {-1000, 1000, Integer.MIN_VALUE, Integer.MAX_VALUE}) {
            refused("15: y " + w, Check.ARGUMENT, x -> x.addPoint(5, w));
            refused("15: y " + w + ", same place", Check.ARGUMENT, x -> x.addPoint(0, w));
            refused("15: y " + w + ", full", Check.ARGUMENT, 6, x -> x.addPoint(9, w));
        }
        for (int place = -2; place <= 2; place++) {
            int p = place;
            refused("15: same place " + p, Check.STATE, x -> x.addPoint(p, 7));
        }
        refused("15: same point", Check.STATE, x -> x.addPoint(-2, -100));
        refused("15: full", Check.STATE, 6, x -> x.addPoint(9, 0));
        refused("15: full, and the same place", Check.STATE, 6, x -> x.addPoint(3, 0));
    }

    private static void tellingCalls() {
        for (int w : NO_EXPONENTS) {
            refused("22: exponent " + w, Check.ARGUMENT, x -> x.coefficient(1, w));
        }
        for (int w : NO_TOPS) {
            refused("24: top " + w, Check.ARGUMENT, x -> x.value(0, w, 1));
            refused("24: top " + w + " by itself", Check.ARGUMENT, x -> x.value(0, w, w));
            refused("34: top " + w, Check.ARGUMENT, x -> x.changes(0, w, 1));
            refused("34: top " + w + " before 0", Check.ARGUMENT, x -> x.changes(3, w, 1));
        }
        for (int w : NO_BOTTOMS) {
            refused("24: bottom " + w, Check.ARGUMENT, x -> x.value(0, 1, w));
            refused("24: bottom " + w + " of 0", Check.ARGUMENT, x -> x.value(3, 0, w));
            refused("34: bottom " + w, Check.ARGUMENT, x -> x.changes(0, 1, w));
            refused("34: bottom " + w + " before 0", Check.ARGUMENT, x -> x.changes(3, 1, w));
        }
    }

    private static void digits() {
        for (boolean isBottom : new boolean[] {false, true}) {
            for (int w : new int[] {-1, 2, 3, 9, 10, 18, 100, Integer.MIN_VALUE, Integer.MAX_VALUE}) {
                // The told number is -2/49.
                int place = w == 2 && !isBottom ? 1 : w;
                refused("29: place " + place, Check.INDEX, x -> x.digit(isBottom, place));
            }
        }
    }

    private static void fractions() {
        for (int w : NO_TOPS) {
            refused("32: top " + w, Check.ARGUMENT, x -> x.rootsBetween(0, w, 1, 1000, 1));
            refused("32: top " + w + " before 0", Check.ARGUMENT, x -> x.rootsBetween(3, w, 1, 1000, 1));
            refused("32: other top " + w, Check.ARGUMENT, x -> x.rootsBetween(0, -1000, 1, w, 1));
            refused("32: other top " + w + " before 0", Check.ARGUMENT, x -> x.rootsBetween(3, -1000, 1, w, 1));
        }
        for (int w : NO_BOTTOMS) {
            refused("32: bottom " + w, Check.ARGUMENT, x -> x.rootsBetween(0, -5, w, 5, 1));
            refused("32: bottom " + w + " before 0", Check.ARGUMENT, x -> x.rootsBetween(3, -5, w, 5, 1));
            refused("32: other bottom " + w, Check.ARGUMENT, x -> x.rootsBetween(0, -5, 1, 5, w));
            refused("32: other bottom " + w + " before 0", Check.ARGUMENT, x -> x.rootsBetween(3, -5, 1, 5, w));
        }
        int[][] notLess = {{1, 1, 1, 1}, {1, 2, 2, 4}, {0, 1, 0, 1000}, {-1, 3, -2, 6}, {1000, 1000, 1, 1}, {1, 1, 0, 1},
            {1, 2, 1, 3}, {1, 1, -1, 1}, {-1, 3, -1, 2}, {501, 1000, 1, 2}, {1000, 999, 1000, 1000}, {1000, 1, -1000, 1}};
        for (int[] w : notLess) {
            for (int a : new int[] {0, 3, 4}) {
                refused("32: not less", Check.ARGUMENT, x -> x.rootsBetween(a, w[0], w[1], w[2], w[3]));
            }
        }
        refused("32: 0", Check.ARITHMETIC, x -> x.rootsBetween(3, 0, 1, 1, 1));
        refused("32: the first is a root", Check.STATE, x -> x.rootsBetween(2, 1, 3, 1, 1));
        refused("32: the first is a root, not in lowest terms", Check.STATE, x -> x.rootsBetween(2, 333, 999, 1, 1));
        refused("32: the second is a root", Check.STATE, x -> x.rootsBetween(2, 0, 1, 1, 2));
        refused("32: the second is a root, not in lowest terms", Check.STATE, x -> x.rootsBetween(2, 0, 1, 500, 1000));
        refused("32: both are roots", Check.STATE, x -> x.rootsBetween(2, 1, 3, 1, 2));
    }

    private static void roots() {
        refused("31: 0", Check.ARITHMETIC, x -> x.realRoots(3));
        refused("33: 0", Check.ARITHMETIC, x -> x.sturmLength(3));
        refused("34: 0", Check.ARITHMETIC, x -> x.changes(3, 1, 1));
        refused("36: 0", Check.ARITHMETIC, x -> x.fractionRoots(3));
        for (int w : new int[] {-1, 2, 12, 13, Integer.MIN_VALUE, Integer.MAX_VALUE}) {
            refused("35: root " + w, Check.INDEX, x -> x.closeIn(0, w, 0));
            refused("35: root " + w + " before bits", Check.INDEX, x -> x.closeIn(0, w, 21));
            refused("37: root " + w, Check.INDEX, x -> x.fractionRoot(2, w));
        }
        for (int w : new int[] {-1, 21, 32, Integer.MIN_VALUE, Integer.MAX_VALUE}) {
            refused("35: bits " + w, Check.ARGUMENT, x -> x.closeIn(0, 0, w));
            refused("35: root of 0 before bits", Check.INDEX, x -> x.closeIn(3, 0, w));
            refused("35: no real root, before bits", Check.INDEX, x -> x.closeIn(5, 0, w));
        }
        refused("35: root of 0", Check.INDEX, x -> x.closeIn(3, 0, 0));
        refused("35: no real root", Check.INDEX, x -> x.closeIn(5, 0, 0));
        refused("37: root of 0", Check.INDEX, x -> x.fractionRoot(3, 0));
        refused("37: no root that is a fraction", Check.INDEX, x -> x.fractionRoot(0, 0));
        refused("37: no real root", Check.INDEX, x -> x.fractionRoot(5, 0));
    }

    private static void primes() {
        boolean[] isNone = new boolean[200];
        for (int i = 2; i < 200; i++) {
            for (int j = 2 * i; j < 200; j += i) {
                isNone[j] = true;
            }
        }
        for (int i = -5; i < 200; i++) {
            int w = i;
            if (i < 2 || i > 97 || isNone[i]) {
                noPrime(w);
            }
        }
        noPrime(Integer.MIN_VALUE);
        noPrime(Integer.MAX_VALUE);
        refused("39: no root by 3", Check.NO_ELEMENT, x -> x.rootBy(0, 3));
        refused("39: no root by 83", Check.NO_ELEMENT, x -> x.rootBy(0, 83));
        refused("39: no root by 7", Check.NO_ELEMENT, x -> x.rootBy(5, 7));
    }

    private static void noPrime(int w) {
        refused("12: prime " + w, Check.ARGUMENT, x -> x.residue(0, 1, w));
        refused("38: prime " + w, Check.ARGUMENT, x -> x.rootsBy(0, w));
        refused("39: prime " + w, Check.ARGUMENT, x -> x.rootBy(0, w));
        refused("39: prime " + w + " of 0", Check.ARGUMENT, x -> x.rootBy(3, w));
    }

    private static void texts() {
        for (int w : new int[] {-1, 7, 8, 200, Integer.MIN_VALUE, Integer.MAX_VALUE}) {
            refused("45: index " + w, Check.INDEX, x -> x.writtenAt(w));
        }
        // The buffer has 5 bytes.
        int[][] tooMany = {{0x20202020, 0x20202020, 0x20202020, 0x20202020, 0x20202020}, {0, 0, 0, 0, 0x20},
            {0x20000000, 0, 0, 0, 0}, {0, 0, 0x200000, 0, 0}, {-1, -1, -1, -1, -1}, {0, 0, 0, 0, 1}, {0, 1, 0, 0, 0},
            {0x01010101, 0, 0, 0, 0x01000000}, {0, Integer.MIN_VALUE, 0, 0, 0}};
        for (int[] w : tooMany) {
            int bytes = 0;
            for (int four : w) {
                bytes += Check.bytesIn(four);
            }
            int before = 201 - bytes;
            Map<String, String> due = Twins.all(filled(before));
            refused("41: one byte too many, " + before + " before", Check.STATE, filled(before), due,
                x -> x.append(w[0], w[1], w[2], w[3], w[4]));
        }
    }

    private static PolyRegisters filled(int bytes) {
        PolyRegisters x = Twins.rich(5);
        Check.put(x, " ".repeat(bytes - 5));
        return x;
    }

    /** A read() that throws empties the buffer and sets the error position, and leaves all else. */
    private static void reads() {
        reads("", 0, Check.ARGUMENT);
        reads("x^", 2, Check.ARGUMENT);
        reads("1 2", 2, Check.ARGUMENT);
        reads("x^13*x", 2, Check.ARGUMENT);
        reads("x^12*x", PolyRegisters.NONE, Check.STATE);
        reads(Twins.NINES + " + 1", PolyRegisters.NONE, Check.STATE);
        reads("x^12*x + ", 9, Check.ARGUMENT);
    }

    private static void reads(String text, int position, String exception) {
        for (int to = 0; to < 6; to++) {
            PolyRegisters twin = Twins.rich(5);
            twin.clearText();
            Map<String, String> due = Twins.all(twin);
            PolyRegisters x = Twins.rich(5);
            x.clearText();
            Check.put(x, text);
            int register = to;
            String what = "14: read \"" + text + "\"";
            Check.due(what, exception, () -> x.read(register));
            due.put("error position", "" + position);
            Twins.same(what, due, x);
        }
    }
}
