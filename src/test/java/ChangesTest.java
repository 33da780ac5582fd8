import java.util.concurrent.Callable;

/** Promises 1 to 18: a new object, the changes, undo. */
public final class ChangesTest {
    private static final String NINES = "999999999999999999";

    public static void main(String[] args) {
        newObject();
        addAndSubtract();
        multiply();
        power();
        derive();
        substitute();
        divide();
        gcd();
        primitive();
        simple();
        residue();
        setTerm();
        readAndBounds();
        readErrors();
        points();
        interpolate();
        undo();
        refusedChangesNothing();
        Check.end();
    }

    private static PolyRegisters with(String... texts) {
        PolyRegisters x = new PolyRegisters();
        for (int i = 0; i < texts.length; i++) {
            Check.read(x, i, texts[i]);
        }
        return x;
    }

    private static void due(String what, PolyRegisters x, Object answer, Callable<?> call, int to, String text) {
        Check.due(what, answer, call);
        Check.due(what + ": the register", text, () -> Check.written(x, to));
    }

    private static void newObject() {
        PolyRegisters x = new PolyRegisters();
        Check.due("1: state", "x^2 - 2; x^3 - x; 6*x^2 - 5*x + 1; 0; 0; 0; 0 points", () -> Check.state(x));
        PolyRegisters y = new PolyRegisters();
        Check.due("1: nothing written", Check.INDEX, () -> y.writtenAt(0));
        Check.due("1: no error", PolyRegisters.NONE, y::errorPosition);
        Check.due("1: empty buffer", 0, y::clearText);
        Check.due("1: nothing to undo", PolyRegisters.NONE, y::undo);
        Check.due("1: told number", "0/1", () -> Check.told(y, 0));
        Check.due("1: NONE", -1, () -> PolyRegisters.NONE);
    }

    private static void addAndSubtract() {
        PolyRegisters x = with("x^2 + 3*x", "-x^2 + 5");
        due("2: add", x, 1, () -> x.add(5, 0, 1), 5, "3*x + 5");
        due("2: add to itself", x, 2, () -> x.add(0, 0, 0), 0, "2*x^2 + 6*x");
        due("3: subtract", x, 2, () -> x.subtract(5, 0, 1), 5, "3*x^2 + 6*x - 5");
        due("3: subtract from itself", x, -1, () -> x.subtract(5, 5, 5), 5, "0");
        PolyRegisters y = with(NINES + "*x", "-" + NINES + "*x", "x", "0", "3");
        due("2: too many digits", y, Check.STATE, () -> y.add(3, 0, 2), 3, "0");
        due("2: too many digits below 0", y, Check.STATE, () -> y.subtract(3, 1, 2), 3, "0");
        due("3: too many digits", y, Check.STATE, () -> y.subtract(3, 0, 1), 3, "0");
        due("2: just fits", y, -1, () -> y.add(3, 0, 1), 3, "0");
        for (int wrong : new int[] {-1, 6, Integer.MIN_VALUE, Integer.MAX_VALUE}) {
            Check.due("2: to", Check.INDEX, () -> y.add(wrong, 0, 2));
            Check.due("2: a", Check.INDEX, () -> y.add(0, wrong, 0));
            Check.due("2: b", Check.INDEX, () -> y.add(0, 0, wrong));
            Check.due("3: to", Check.INDEX, () -> y.subtract(wrong, 0, 1));
            Check.due("3: a", Check.INDEX, () -> y.subtract(0, wrong, 0));
            Check.due("3: b", Check.INDEX, () -> y.subtract(0, 0, wrong));
        }
    }

    private static void multiply() {
        PolyRegisters x = with("x - 1", "x^2 + x + 1", "0", "x^7", "x^6", "1000000000");
        due("4: multiply", x, 3, () -> x.multiply(2, 0, 1), 2, "x^3 - 1");
        due("4: by itself", x, 2, () -> x.multiply(0, 0, 0), 0, "x^2 - 2*x + 1");
        due("4: degree 13", x, Check.STATE, () -> x.multiply(2, 3, 4), 2, "x^3 - 1");
        due("4: degree 12", x, 12, () -> x.multiply(2, 4, 4), 2, "x^12");
        due("4: 19 digits", x, Check.STATE, () -> x.multiply(2, 5, 5), 2, "x^12");
        PolyRegisters y = with("999999999", "1000000001", "x^12", "0", "-1000000000");
        due("4: 18 digits", y, 0, () -> y.multiply(5, 0, 1), 5, NINES);
        due("4: 19 digits below 0", y, Check.STATE, () -> y.multiply(5, 1, 4), 5, NINES);
        due("4: times 0", y, -1, () -> y.multiply(5, 2, 3), 5, "0");
        Check.due("4: to", Check.INDEX, () -> y.multiply(6, 2, 2));
        Check.due("4: a", Check.INDEX, () -> y.multiply(0, -1, 2));
        Check.due("4: b", Check.INDEX, () -> y.multiply(0, 2, 6));
    }

    private static void power() {
        PolyRegisters x = with("x - 1", "0", "10", "x^5 + 1", "-9", "-x");
        due("5: power", x, 3, () -> x.power(5, 0, 3), 5, "x^3 - 3*x^2 + 3*x - 1");
        due("5: power 12", x, 12, () -> x.power(5, 0, 12), 5,
            "x^12 - 12*x^11 + 66*x^10 - 220*x^9 + 495*x^8 - 792*x^7 + 924*x^6 - 792*x^5 + 495*x^4 - 220*x^3 + 66*x^2 - 12*x + 1");
        due("5: power 0", x, 0, () -> x.power(5, 0, 0), 5, "1");
        due("5: 0 to the power 0", x, 0, () -> x.power(5, 1, 0), 5, "1");
        due("5: 0 to the power 2", x, -1, () -> x.power(5, 1, 2), 5, "0");
        due("5: number", x, 0, () -> x.power(5, 4, 11), 5, "-31381059609");
        due("5: power 1", x, 0, () -> x.power(5, 4, 1), 5, "-9");
        due("5: degree 15", x, Check.STATE, () -> x.power(5, 3, 3), 5, "-9");
        x.setTerm(2, 0, 100_000_000L);
        due("5: 17 digits", x, 0, () -> x.power(5, 2, 2), 5, "10000000000000000");
        due("5: 25 digits", x, Check.STATE, () -> x.power(5, 2, 3), 5, "10000000000000000");
        Check.due("5: exponent -1", Check.ARGUMENT, () -> x.power(5, 3, -1));
        Check.due("5: exponent 13", Check.ARGUMENT, () -> x.power(5, 3, 13));
        Check.due("5: register first", Check.INDEX, () -> x.power(6, 3, 13));
        Check.due("5: a", Check.INDEX, () -> x.power(5, -1, 13));
    }

    private static void derive() {
        PolyRegisters x = with("x^12 - 4*x^3 + 2*x + 9", "7", "0", NINES + "*x + 1", "500000000000000000*x^2", "-83333333333333333*x^12");
        due("6: derive", x, 11, () -> x.derive(0, 0), 0, "12*x^11 - 12*x^2 + 2");
        due("6: a number", x, -1, () -> x.derive(1, 1), 1, "0");
        due("6: 0", x, -1, () -> x.derive(1, 2), 1, "0");
        due("6: 18 digits", x, 0, () -> x.derive(1, 3), 1, NINES);
        due("6: 19 digits", x, Check.STATE, () -> x.derive(1, 4), 1, NINES);
        due("6: just 18 digits", x, 11, () -> x.derive(1, 5), 1, "-999999999999999996*x^11");
        x.setTerm(5, 12, -83_333_333_333_333_334L);
        due("6: 19 digits below 0", x, Check.STATE, () -> x.derive(2, 5), 2, "0");
        x.setTerm(5, 12, 999_999_999_999_999_999L);
        due("6: beyond a long", x, Check.STATE, () -> x.derive(2, 5), 2, "0");
        Check.due("6: to", Check.INDEX, () -> x.derive(6, 0));
        Check.due("6: a", Check.INDEX, () -> x.derive(0, -1));
    }

    private static void substitute() {
        PolyRegisters x = with("x^3 - x", "x + 1", "x^4", "-2", "0", "x^5 + 3");
        due("7: substitute", x, 3, () -> x.substitute(0, 0, 1), 0, "x^3 + 3*x^2 + 2*x");
        due("7: a number in", x, -1, () -> x.substitute(5, 0, 3), 5, "0");
        due("7: 0 in", x, 0, () -> x.substitute(5, 1, 4), 5, "1");
        due("7: in a number", x, 0, () -> x.substitute(5, 3, 2), 5, "-2");
        due("7: in 0", x, -1, () -> x.substitute(5, 4, 2), 5, "0");
        due("7: in itself", x, 1, () -> x.substitute(1, 1, 1), 1, "x + 2");
        due("7: degree 12", x, 12, () -> x.substitute(5, 0, 2), 5, "x^12 + 3*x^8 + 2*x^4");
        due("7: degree 16", x, Check.STATE, () -> x.substitute(5, 2, 2), 5, "x^12 + 3*x^8 + 2*x^4");
        x.setTerm(3, 0, 100_000L);
        due("7: 20 digits", x, Check.STATE, () -> x.substitute(5, 2, 3), 5, "x^12 + 3*x^8 + 2*x^4");
        // The terms are longer than a register takes, and cancel out.
        PolyRegisters y = with("x^3 - 1000000000*x^2 + 1", "1000000000", "x^12", NINES);
        due("7: long on the way", y, 0, () -> y.substitute(5, 0, 1), 5, "1");
        due("7: 216 digits", y, Check.STATE, () -> y.substitute(5, 2, 3), 5, "1");
        Check.due("7: to", Check.INDEX, () -> x.substitute(-1, 2, 2));
        Check.due("7: a", Check.INDEX, () -> x.substitute(0, 6, 2));
        Check.due("7: b", Check.INDEX, () -> x.substitute(0, 2, 6));
    }

    private static void divide() {
        PolyRegisters x = with("x^3 - 2*x + 5", "2*x - 1", "0", "0", "0", "-3");
        due("8: divide", x, 3, () -> x.divide(2, 3, 0, 1), 2, "4*x^2 + 2*x - 7");
        due("8: remainder", x, 3, () -> x.degree(0), 3, "33");
        due("8: by a number", x, 4, () -> x.divide(2, 3, 0, 5), 2, "-27*x^3 + 54*x - 135");
        due("8: nothing is left", x, -1, () -> x.degree(3), 3, "0");
        due("8: by a longer one", x, 0, () -> x.divide(2, 3, 1, 0), 2, "0");
        due("8: all is left", x, 1, () -> x.degree(3), 3, "2*x - 1");
        due("8: 0", x, 0, () -> x.divide(2, 3, 4, 5), 2, "0");
        due("8: in place", x, 3, () -> x.divide(0, 1, 0, 1), 0, "4*x^2 + 2*x - 7");
        due("8: in place, remainder", x, 0, () -> x.degree(1), 1, "33");
        PolyRegisters y = with("x^3 + 1", "-2*x + 1", "x^12", NINES + "*x^2 + 1", "0", "1000000*x + 1");
        due("8: leading below 0", y, 3, () -> y.divide(2, 3, 0, 1), 2, "4*x^2 + 2*x + 1");
        due("8: times -8", y, 0, () -> y.degree(3), 3, "-9");
        PolyRegisters v = with("x^12 - 5*x^11 + 7", "-2");
        due("8: thirteen steps", v, 13, () -> v.divide(2, 3, 0, 1), 2, "4096*x^12 - 20480*x^11 + 28672");
        due("8: nothing is left", v, -1, () -> v.degree(3), 3, "0");
        PolyRegisters z = with("x^12", NINES + "*x^2 + 1", "10*x^11 + 1", "100*x - 1", "x^3", "1000000*x + 1");
        Check.due("8: quotient too long", Check.STATE, () -> z.divide(4, 5, 0, 1));
        due("8: nothing changed", z, 3, () -> z.degree(4), 4, "x^3");
        Check.read(z, 0, "x^2");
        Check.read(z, 1, "x + 1000000000");
        due("8: remainder alone too long", z, Check.STATE, () -> z.divide(4, 5, 0, 1), 4, "x^3");
        due("8: the remainder's register", z, 1, () -> z.degree(5), 5, "1000000*x + 1");
        Check.due("8: the same register", Check.ARGUMENT, () -> z.divide(4, 4, 0, 1));
        PolyRegisters w = new PolyRegisters();
        Check.due("8: by 0", Check.ARITHMETIC, () -> w.divide(4, 5, 0, 3));
        Check.due("8: the same register first", Check.ARGUMENT, () -> w.divide(4, 4, 0, 3));
        Check.due("8: quotient", Check.INDEX, () -> w.divide(6, 6, 0, 3));
        Check.due("8: remainder", Check.INDEX, () -> w.divide(0, -1, 0, 3));
        Check.due("8: a", Check.INDEX, () -> w.divide(0, 0, 6, 3));
        Check.due("8: b", Check.INDEX, () -> w.divide(0, 0, 0, 6));
        Check.due("8: a change", -1, w::undo);
    }

    private static void gcd() {
        PolyRegisters x = with("6*x^2 - 6", "-4*x^2 + 8*x - 4", "0", "15", "-x^3 + 2", "-6*x");
        due("9: gcd", x, 1, () -> x.gcd(2, 0, 1), 2, "2*x - 2");
        due("9: the other way round", x, 1, () -> x.gcd(2, 1, 0), 2, "2*x - 2");
        x.subtract(2, 2, 2);
        due("9: with 0", x, 3, () -> x.gcd(3, 4, 2), 3, "x^3 - 2");
        due("9: 0 with", x, 1, () -> x.gcd(3, 2, 5), 3, "6*x");
        due("9: both 0", x, -1, () -> x.gcd(3, 2, 2), 3, "0");
        due("9: with itself", x, 2, () -> x.gcd(1, 1, 1), 1, "4*x^2 - 8*x + 4");
        due("9: nothing common", x, 0, () -> x.gcd(3, 4, 5), 3, "1");
        Check.read(x, 3, "15");
        due("9: with a number", x, 0, () -> x.gcd(3, 3, 5), 3, "3");
        due("9: two numbers", x, 0, () -> x.gcd(3, 3, 3), 3, "3");
        // A divisor whose coefficients are longer than those of both: 24 * 10^16 times a bump that the other factors flatten.
        PolyRegisters y = new PolyRegisters();
        long[] bump = {1, 2, 3, 4, 5, 4, 3, 2, 1};
        fill(y, 0, bump, new long[] {1, -2, 1}, 240_000_000_000_000_000L);
        fill(y, 1, bump, new long[] {1, -1, 0, 0, 1}, 240_000_000_000_000_000L);
        due("9: 19 digits", y, Check.STATE, () -> y.gcd(2, 0, 1), 2, "6*x^2 - 5*x + 1");
        fill(y, 0, bump, new long[] {1, -2, 1}, 190_000_000_000_000_000L);
        fill(y, 1, bump, new long[] {1, -1, 0, 0, 1}, 190_000_000_000_000_000L);
        due("9: 18 digits", y, 8, () -> y.gcd(2, 0, 1), 2, "190000000000000000*x^8 + 380000000000000000*x^7 + 570000000000000000*x^6"
            + " + 760000000000000000*x^5 + 950000000000000000*x^4 + 760000000000000000*x^3 + 570000000000000000*x^2"
            + " + 380000000000000000*x + 190000000000000000");
        Check.due("9: to", Check.INDEX, () -> x.gcd(6, 0, 1));
        Check.due("9: a", Check.INDEX, () -> x.gcd(0, 6, 1));
        Check.due("9: b", Check.INDEX, () -> x.gcd(0, 0, -1));
    }

    /** Sets a register to factor * a * b. */
    private static void fill(PolyRegisters x, int to, long[] a, long[] b, long factor) {
        x.subtract(to, to, to);
        for (int i = 0; i < a.length + b.length - 1; i++) {
            long sum = 0;
            for (int j = 0; j < a.length; j++) {
                sum += i - j >= 0 && i - j < b.length ? a[j] * b[i - j] : 0;
            }
            x.setTerm(to, i, factor * sum);
        }
    }

    private static void primitive() {
        PolyRegisters x = with("-6*x^3 + 9*x", "12*x - 18", "0", "-5", "x - 2", NINES);
        due("10: primitive", x, 3, () -> x.primitive(0, 0), 0, "2*x^3 - 3*x");
        due("10: leading above 0", x, 1, () -> x.primitive(0, 1), 0, "2*x - 3");
        due("10: 0", x, -1, () -> x.primitive(0, 2), 0, "0");
        due("10: number", x, 0, () -> x.primitive(0, 3), 0, "1");
        due("10: already", x, 1, () -> x.primitive(0, 4), 0, "x - 2");
        due("10: long number", x, 0, () -> x.primitive(0, 5), 0, "1");
        Check.due("10: to", Check.INDEX, () -> x.primitive(6, 0));
        Check.due("10: a", Check.INDEX, () -> x.primitive(0, -1));
    }

    private static void simple() {
        PolyRegisters x = with("-8*(x - 1)^3*(2*x + 1)^2*(x^2 + 1)^2", "5", "0", "-x^12", "4*x^2 - 8", "3*x");
        due("11: simple", x, 4, () -> x.simple(0, 0), 0, "2*x^4 - x^3 + x^2 - x - 1");
        due("11: number", x, 0, () -> x.simple(0, 1), 0, "1");
        due("11: x", x, 1, () -> x.simple(0, 3), 0, "x");
        due("11: already simple", x, 2, () -> x.simple(0, 4), 0, "x^2 - 2");
        due("11: 0", x, Check.ARITHMETIC, () -> x.simple(0, 2), 0, "x^2 - 2");
        // (x - 1)^3 * t, where t is M * (1 + x + x^2 + x^3)^3 + 1: the first differences of t are longer than its third ones.
        long m = 260_000_000_000_000_000L;
        PolyRegisters y = with("0", "0");
        long[] cube = {-1, 3, -3, 1};
        for (int i = 0; i <= 12; i++) {
            y.setTerm(0, i, (i < 4 ? cube[i] : 0) + m * (i % 4 == 0 ? cube[i / 4] : 0));
        }
        due("11: 19 digits", y, Check.STATE, () -> y.simple(1, 0), 1, "0");
        for (int i = 0; i <= 12; i++) {
            y.setTerm(0, i, (i < 4 ? cube[i] : 0) + 24 * (i % 4 == 0 ? cube[i / 4] : 0));
        }
        due("11: the same, shorter", y, 10, () -> y.simple(1, 0), 1,
            "24*x^10 + 48*x^9 + 72*x^8 + 96*x^7 + 48*x^6 - 48*x^4 - 96*x^3 - 72*x^2 - 47*x - 25");
        Check.due("11: to", Check.INDEX, () -> x.simple(6, 2));
        Check.due("11: a", Check.INDEX, () -> x.simple(0, 6));
    }

    private static void residue() {
        PolyRegisters x = with("7*x^3 - 5*x^2 + 14*x - 15", "0", "-97*x + 96", NINES + "*x - " + NINES);
        due("12: residue", x, 2, () -> x.residue(4, 0, 7), 4, "2*x^2 + 6");
        due("12: by 2", x, 3, () -> x.residue(4, 0, 2), 4, "x^3 + x^2 + 1");
        due("12: 0", x, -1, () -> x.residue(4, 1, 3), 4, "0");
        due("12: by 97", x, 0, () -> x.residue(4, 2, 97), 4, "96");
        due("12: long", x, 1, () -> x.residue(3, 3, 89), 3, "24*x + 65");
        for (int wrong : new int[] {Integer.MIN_VALUE, -2, 0, 1, 4, 9, 25, 49, 77, 91, 95, 98, 101, Integer.MAX_VALUE}) {
            Check.due("12: prime " + wrong, Check.ARGUMENT, () -> x.residue(4, 0, wrong));
        }
        int primes = 0;
        for (int i = -5; i < 130; i++) {
            int prime = i;
            primes += Check.answer(() -> x.residue(4, 0, prime)).startsWith("throws") ? 0 : 1;
        }
        int found = primes;
        Check.due("12: primes to 97", 25, () -> found);
        Check.due("12: to", Check.INDEX, () -> x.residue(6, 0, 4));
        Check.due("12: a", Check.INDEX, () -> x.residue(0, -1, 4));
    }

    private static void setTerm() {
        PolyRegisters x = with("0");
        due("13: setTerm", x, 12, () -> x.setTerm(0, 12, -3), 0, "-3*x^12");
        due("13: second", x, 12, () -> x.setTerm(0, 0, 999_999_999_999_999_999L), 0, "-3*x^12 + " + NINES);
        due("13: over", x, 12, () -> x.setTerm(0, 12, 4), 0, "4*x^12 + " + NINES);
        due("13: away", x, 0, () -> x.setTerm(0, 12, 0), 0, NINES);
        due("13: -18 digits", x, 0, () -> x.setTerm(0, 0, -999_999_999_999_999_999L), 0, "-" + NINES);
        for (long wrong : new long[] {1_000_000_000_000_000_000L, -1_000_000_000_000_000_000L, Long.MAX_VALUE, Long.MIN_VALUE}) {
            due("13: 19 digits", x, Check.STATE, () -> x.setTerm(0, 0, wrong), 0, "-" + NINES);
        }
        Check.due("13: exponent 13", Check.ARGUMENT, () -> x.setTerm(0, 13, Long.MAX_VALUE));
        Check.due("13: exponent -1", Check.ARGUMENT, () -> x.setTerm(0, -1, Long.MAX_VALUE));
        Check.due("13: to", Check.INDEX, () -> x.setTerm(6, 13, 0));
        due("13: all away", x, -1, () -> x.setTerm(0, 0, 0), 0, "0");
    }

    private static void read(PolyRegisters x, String text, int degree, String written) {
        Check.due("14: read \"" + text + "\"", degree, () -> Check.read(x, 3, text));
        Check.due("14: error position of \"" + text + "\"", -1, x::errorPosition);
        Check.due("14: result of \"" + text + "\"", written, () -> Check.written(x, 3));
        Check.due("14: buffer after \"" + text + "\"", 0, x::clearText);
    }

    private static void tooGreat(PolyRegisters x, String text) {
        Check.read(x, 3, "7*x");
        Check.due("14: read \"" + text + "\"", Check.STATE, () -> Check.read(x, 3, text));
        Check.due("14: error position of \"" + text + "\"", -1, x::errorPosition);
        Check.due("14: buffer after \"" + text + "\"", 0, x::clearText);
        Check.due("14: nothing changed by \"" + text + "\"", "7*x", () -> Check.written(x, 3));
    }

    private static void readAndBounds() {
        PolyRegisters x = new PolyRegisters();
        read(x, "0", -1, "0");
        read(x, "x", 1, "x");
        read(x, "-x", 1, "-x");
        read(x, "  - 2 * x ^ 3+x-  4 ", 3, "-2*x^3 + x - 4");
        read(x, "-2^2", 0, "-4");
        read(x, "-x*x + x^2", -1, "0");
        read(x, "2*(x+1)^2*3-(x)", 2, "6*x^2 + 11*x + 6");
        read(x, "((((((((x))))))))", 1, "x");
        read(x, "1 + 2*(3 - 4*(5 + 6*(7 - x*(8 + 9*(x - 2*(3 + 4*(5 - 6*(7 + x)))))))) - x^2", 2, "21167*x^2 + 125664*x - 369");
        read(x, "0^0+x^0+(x-x)^0", 0, "3");
        read(x, "x^000000000000000012", 12, "x^12");
        read(x, "000000000000000007*x", 1, "7*x");
        read(x, NINES + "-" + NINES + "*x", 1, "-" + NINES + "*x + " + NINES);
        read(x, "x^6*x^6", 12, "x^12");
        read(x, "(x^6)^2 - x*x^11 + 1", 0, "1");
        tooGreat(x, "x^12*x");
        tooGreat(x, "x^12*x*0");
        tooGreat(x, "0*(x^12*x)");
        tooGreat(x, "(x^12*x)^0");
        tooGreat(x, "(x^2)^7 - x^12");
        tooGreat(x, NINES + "+1-1");
        tooGreat(x, "-" + NINES + "-1+1");
        tooGreat(x, "1000000000*1000000000*0");
        tooGreat(x, "10^12*10^6");
        read(x, "10^12*10^5", 0, "100000000000000000");
        read(x, "(10^6)^2*0 + 1", 0, "1");
        tooGreat(x, "(x + " + NINES + ")^2");
        tooGreat(x, "(" + NINES + "*x + x)*0");
        Check.due("14: register", Check.INDEX, () -> x.read(6));
    }

    private static void wrong(PolyRegisters x, String text, int position) {
        Check.read(x, 3, "7*x");
        Check.due("14: read \"" + text + "\"", Check.ARGUMENT, () -> Check.read(x, 3, text));
        Check.due("43: error position of \"" + text + "\"", position, x::errorPosition);
        Check.due("14: buffer after \"" + text + "\"", 0, x::clearText);
        Check.due("14: nothing changed by \"" + text + "\"", "7*x", () -> Check.written(x, 3));
    }

    private static void readErrors() {
        PolyRegisters x = new PolyRegisters();
        wrong(x, "", 0);
        wrong(x, "   ", 3);
        wrong(x, "x+", 2);
        wrong(x, "x+ ", 3);
        wrong(x, "+x", 0);
        wrong(x, "--x", 1);
        wrong(x, "x - -x", 4);
        wrong(x, "x y", 2);
        wrong(x, "2x", 1);
        wrong(x, "x2", 1);
        wrong(x, "2 3", 2);
        wrong(x, "x)", 1);
        wrong(x, "(x", 2);
        wrong(x, "(x 2)", 3);
        wrong(x, "()", 1);
        wrong(x, "x**x", 2);
        wrong(x, "x*-2", 2);
        wrong(x, "x^", 2);
        wrong(x, "x^x", 2);
        wrong(x, "x^-1", 2);
        wrong(x, "x^(2)", 2);
        wrong(x, "x^2^2", 3);
        wrong(x, "x ^ 13", 4);
        wrong(x, "x^0000000000000000012", 2);
        wrong(x, " 1234567890123456789", 1);
        wrong(x, "x*0000000000000000007", 2);
        wrong(x, "(((((((((x)))))))))", 8);
        wrong(x, "(x)*((((((((( x", 12);
        wrong(x, "X", 0);
        wrong(x, "\u00ff", 0);
        wrong(x, "x\u0001", 1);
        wrong(x, "1/2", 1);
        wrong(x, "x^12*x )", 7);
        wrong(x, "1000000000^3 + (", 16);
        Check.put(x, "x+");
        Check.due("14: no such register leaves the buffer", Check.INDEX, () -> x.read(-1));
        Check.due("43: no such register leaves the position", 16, x::errorPosition);
        Check.due("42: the buffer", 2, x::clearText);
        Check.due("14: empty buffer", Check.ARGUMENT, () -> x.read(0));
        Check.due("43: empty buffer", 0, x::errorPosition);
        Check.due("43: undo leaves it", 8, () -> {
            for (int i = 0; i < 7; i++) {
                x.undo();
            }
            return 8 + x.errorPosition();
        });
    }

    private static void points() {
        PolyRegisters x = new PolyRegisters();
        Check.due("15: addPoint", 1, () -> x.addPoint(-9, 999));
        Check.due("15: same place", Check.STATE, () -> x.addPoint(-9, 0));
        Check.due("15: second", 2, () -> x.addPoint(9, -999));
        Check.due("15: x below", Check.ARGUMENT, () -> x.addPoint(-10, 0));
        Check.due("15: x above", Check.ARGUMENT, () -> x.addPoint(10, 0));
        Check.due("15: y below", Check.ARGUMENT, () -> x.addPoint(-9, -1000));
        Check.due("15: y above", Check.ARGUMENT, () -> x.addPoint(1, 1000));
        for (int i = 0; i < 4; i++) {
            x.addPoint(i, i);
        }
        Check.due("15: full", Check.STATE, () -> x.addPoint(5, 5));
        Check.due("15: full, and out of range", Check.ARGUMENT, () -> x.addPoint(5, 1000));
        Check.due("40: pointCount", 6, x::pointCount);
        Check.due("16: clearPoints", 6, x::clearPoints);
        Check.due("40: none", 0, x::pointCount);
        Check.due("16: none", 0, x::clearPoints);
        Check.due("16: also a change", 7, x::undo);
        Check.due("18: undo", 6, x::undo);
        Check.due("40: back", 6, x::pointCount);
        Check.due("15: back with their places", Check.STATE, () -> x.addPoint(3, 5));
    }

    private static void interpolate() {
        PolyRegisters x = new PolyRegisters();
        due("17: no points", x, 1L, () -> x.interpolate(0), 0, "0");
        x.addPoint(4, 7);
        due("17: one point", x, 1L, () -> x.interpolate(0), 0, "7");
        x.addPoint(2, 6);
        due("17: two points", x, 2L, () -> x.interpolate(0), 0, "x + 10");
        x.addPoint(0, 5);
        due("17: three in a line", x, 2L, () -> x.interpolate(5), 5, "x + 10");
        x.addPoint(1, 5);
        due("17: four points", x, 6L, () -> x.interpolate(5), 5, "-x^3 + 6*x^2 - 5*x + 30");
        x.clearPoints();
        for (int i = 0; i < 6; i++) {
            x.addPoint(i * 3 - 7, 0);
        }
        due("17: all 0", x, 1L, () -> x.interpolate(0), 0, "0");
        x.clearPoints();
        x.addPoint(3, -4);
        due("17: below 0", x, 1L, () -> x.interpolate(0), 0, "-4");
        PolyRegisters y = new PolyRegisters();
        int[] places = {-9, 9, -8, 8, 4, -5};
        int[] heights = {999, -999, 998, -997, 991, -983};
        for (int i = 0; i < 6; i++) {
            y.addPoint(places[i], heights[i]);
        }
        long multiple = y.interpolate(3);
        Check.due("17: far places", 5, () -> y.degree(3));
        for (int i = 0; i < 6; i++) {
            int k = i;
            Check.due("17: value at " + places[i], multiple * heights[i], () -> {
                y.value(3, places[k], 1);
                return y.low(false);
            });
        }
        y.content(3);
        Check.due("17: no smaller multiple", 1L, () -> gcdOf(y.low(false), multiple));
        Check.due("17: to", Check.INDEX, () -> y.interpolate(6));
    }

    private static long gcdOf(long a, long b) {
        return b == 0 ? Math.abs(a) : gcdOf(b, a % b);
    }

    private static void undo() {
        PolyRegisters x = new PolyRegisters();
        String[] states = new String[11];
        states[0] = Twins.state(x);
        Runnable[] changes = {
            () -> x.add(3, 0, 1), () -> x.addPoint(1, 2), () -> x.divide(0, 1, 1, 0), () -> x.multiply(5, 3, 3),
            () -> x.clearPoints(), () -> x.setTerm(5, 0, 9), () -> x.residue(5, 5, 5), () -> Check.read(x, 4, "x^5"),
            () -> x.interpolate(2), () -> x.add(0, 0, 0)};
        for (int i = 0; i < changes.length; i++) {
            changes[i].run();
            states[i + 1] = Twins.state(x);
        }
        Check.put(x, "x^2");
        for (int i = 0; i < 8; i++) {
            int left = 7 - i;
            x.value(1, 7, 2);
            String told = Check.told(x, 1);
            Check.due("18: undo", left, x::undo);
            Check.due("18: the told number stays", told, () -> Check.told(x, 1));
            Check.due("18: state", states[left + 2], () -> Twins.state(x));
        }
        Check.due("18: no ninth", PolyRegisters.NONE, x::undo);
        Check.due("18: state", states[2], () -> Twins.state(x));
        Check.due("18: the buffer stays", 3, x::clearText);
        Check.due("18: a change after undo", 2, () -> x.add(0, 0, 0));
        Check.due("18: undo it", 0, x::undo);
        Check.due("18: state", states[2], () -> Twins.state(x));
    }

    /** Calls that throw are no changes. */
    private static void refusedChangesNothing() {
        PolyRegisters x = new PolyRegisters();
        x.add(3, 0, 1);
        Check.answer(() -> x.power(0, 0, 12));
        Check.answer(() -> x.divide(0, 0, 1, 2));
        Check.answer(() -> x.addPoint(10, 0));
        Check.answer(() -> x.setTerm(0, 0, Long.MIN_VALUE));
        Check.answer(() -> x.read(2));
        Check.answer(() -> x.residue(0, 0, 4));
        Check.answer(() -> x.simple(0, 4));
        Check.due("8: only the change counts", "x^2 - 2; x^3 - x; 6*x^2 - 5*x + 1; x^3 + x^2 - x - 2; 0; 0; 0 points", () -> Check.state(x));
        Check.due("8: and is undone", 0, x::undo);
    }
}
