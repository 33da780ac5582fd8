import java.math.BigInteger;
import java.util.concurrent.Callable;

/** Promises 19 to 48: polynomials, the told number, roots, points and texts, measures. */
public final class AnswersTest {
    private static final String NINES = "999999999999999999";

    public static void main(String[] args) {
        shape();
        coefficientAndContent();
        value();
        dividesAndSame();
        agreements();
        toldNumber();
        realRoots();
        rootsBetween();
        sturm();
        closeIn();
        fractionRoots();
        rootsByPrimes();
        appendAndClear();
        write();
        measures();
        Check.end();
    }

    private static PolyRegisters with(String... texts) {
        PolyRegisters x = new PolyRegisters();
        for (int i = 0; i < texts.length; i++) {
            Check.read(x, i, texts[i]);
        }
        return x;
    }

    private static void told(String what, PolyRegisters x, int sign, String number, Callable<?> call) {
        Check.due(what, sign, call);
        Check.due(what + ": the told number", number, () -> Check.told(x, sign));
    }

    private static void shape() {
        PolyRegisters x = with("x^12 - 3*x^5 + 2", "7", "0", "x");
        Check.due("19: degree", 12, () -> x.degree(0));
        Check.due("19: number", 0, () -> x.degree(1));
        Check.due("19: 0", -1, () -> x.degree(2));
        Check.due("20: terms", 3, () -> x.terms(0));
        Check.due("20: 0", 0, () -> x.terms(2));
        Check.due("21: first", 12, () -> x.exponent(0, 0));
        Check.due("21: second", 5, () -> x.exponent(0, 1));
        Check.due("21: last", 0, () -> x.exponent(0, 2));
        Check.due("21: one term", 1, () -> x.exponent(3, 0));
        for (int wrong : new int[] {-1, 3, Integer.MAX_VALUE, Integer.MIN_VALUE}) {
            Check.due("21: term", Check.INDEX, () -> x.exponent(0, wrong));
        }
        Check.due("21: no term", Check.INDEX, () -> x.exponent(2, 0));
        for (int wrong : new int[] {-1, 6, Integer.MAX_VALUE, Integer.MIN_VALUE}) {
            Check.due("19: register", Check.INDEX, () -> x.degree(wrong));
            Check.due("20: register", Check.INDEX, () -> x.terms(wrong));
            Check.due("21: register", Check.INDEX, () -> x.exponent(wrong, 0));
        }
    }

    private static void coefficientAndContent() {
        PolyRegisters x = with("-6*x^3 + 9*x", NINES + "*x^12", "0", "-8");
        told("22: coefficient", x, -1, "-6/1", () -> x.coefficient(0, 3));
        told("22: none", x, 0, "0/1", () -> x.coefficient(0, 2));
        told("22: above the degree", x, 0, "0/1", () -> x.coefficient(0, 12));
        told("22: long", x, 1, NINES + "/1", () -> x.coefficient(1, 12));
        told("23: content", x, 1, "3/1", () -> x.content(0));
        told("23: long", x, 1, NINES + "/1", () -> x.content(1));
        told("23: 0", x, 0, "0/1", () -> x.content(2));
        told("23: number", x, 1, "8/1", () -> x.content(3));
        Check.due("22: exponent 13", Check.ARGUMENT, () -> x.coefficient(0, 13));
        Check.due("22: exponent -1", Check.ARGUMENT, () -> x.coefficient(0, -1));
        Check.due("22: register", Check.INDEX, () -> x.coefficient(6, 13));
        Check.due("23: register", Check.INDEX, () -> x.content(-1));
        Check.due("22: exceptions tell nothing", "8/1", () -> Check.told(x, 1));
    }

    private static void value() {
        PolyRegisters x = with("4*x^2 - 2", "x^12", "0", "9", NINES + "*x^12 + " + NINES + "*x^11", "6*x^2 - 5*x + 1");
        told("24: value", x, 1, "2/1", () -> x.value(0, 2, 2));
        told("24: lowest terms", x, -1, "-14/9", () -> x.value(0, -2, 6));
        told("24: partly", x, 1, "7/1", () -> x.value(0, 9, 6));
        told("24: half", x, -1, "-1/1", () -> x.value(0, 1, 2));
        told("24: root", x, 0, "0/1", () -> x.value(5, 333, 999));
        told("24: of 0", x, 0, "0/1", () -> x.value(2, 7, 9));
        told("24: of a number", x, 1, "9/1", () -> x.value(3, 7, 9));
        told("24: at 0", x, -1, "-2/1", () -> x.value(0, 0, 1000));
        told("24: 1/1000", x, 1, "1/1" + "0".repeat(36), () -> x.value(1, -1, 1000));
        told("24: 999/1000", x, 1, new BigInteger("999").pow(12) + "/1" + "0".repeat(36), () -> x.value(1, 999, 1000));
        told("24: long", x, 1, new BigInteger(NINES).multiply(BigInteger.TEN.pow(36).add(BigInteger.TEN.pow(33))) + "/1",
            () -> x.value(4, 1000, 1));
        told("24: bounds", x, 1, "3999998/1", () -> x.value(0, -1000, 1));
        Check.due("24: top -1001", Check.ARGUMENT, () -> x.value(0, -1001, 1));
        Check.due("24: top 1001", Check.ARGUMENT, () -> x.value(0, 1001, 1));
        Check.due("24: bottom 0", Check.ARGUMENT, () -> x.value(0, 1, 0));
        Check.due("24: bottom -1", Check.ARGUMENT, () -> x.value(0, 1, -1));
        Check.due("24: bottom 1001", Check.ARGUMENT, () -> x.value(0, 1, 1001));
        Check.due("24: register", Check.INDEX, () -> x.value(6, 1001, 0));
        Check.due("24: exceptions tell nothing", "3999998/1", () -> Check.told(x, 1));
    }

    private static void dividesAndSame() {
        PolyRegisters x = with("2*x - 2", "x^2 - 1", "4*x^2 - 4", "0", "3", "-3");
        Check.due("25: with fractions only", false, () -> x.divides(0, 1));
        Check.due("25: divides", true, () -> x.divides(0, 2));
        Check.due("25: times a number", true, () -> x.divides(1, 2));
        Check.due("25: not the other way", false, () -> x.divides(2, 1));
        Check.due("25: 0 is divided", true, () -> x.divides(0, 3));
        Check.due("25: 0 divides 0", true, () -> x.divides(3, 3));
        Check.due("25: 0 divides nothing else", false, () -> x.divides(3, 4));
        Check.due("25: numbers", true, () -> x.divides(4, 5));
        Check.due("25: a number does not", false, () -> x.divides(4, 2));
        Check.due("25: longer", false, () -> x.divides(0, 4));
        Check.due("26: same", true, () -> x.areSame(1, 1));
        Check.due("26: sign", false, () -> x.areSame(4, 5));
        Check.due("26: unlike", false, () -> x.areSame(1, 2));
        Check.due("26: 0", false, () -> x.areSame(3, 4));
        PolyRegisters y = with("x^2 - x + 1", "x^12", "x^3 - " + NINES + "*x^2 + 5", "x", "x^11 - 1", "1");
        Check.due("25: remainder on the way", false, () -> y.divides(0, 4));
        Check.due("25: long quotients", false, () -> y.divides(2, 1));
        Check.due("25: x", true, () -> y.divides(3, 1));
        Check.due("25: 1", true, () -> y.divides(5, 2));
        y.subtract(5, 5, 5);
        y.setTerm(5, 2, 5);
        y.setTerm(5, 1, 1);
        y.setTerm(4, 11, 0);
        y.setTerm(4, 0, 0);
        Check.due("26: two ways", true, () -> {
            y.subtract(4, 5, 5);
            y.subtract(3, 3, 3);
            return y.areSame(4, 3);
        });
        for (int wrong : new int[] {-1, 6}) {
            Check.due("25: a", Check.INDEX, () -> y.divides(wrong, 0));
            Check.due("25: b", Check.INDEX, () -> y.divides(0, wrong));
            Check.due("26: a", Check.INDEX, () -> y.areSame(wrong, 0));
            Check.due("26: b", Check.INDEX, () -> y.areSame(0, wrong));
            Check.due("27: a", Check.INDEX, () -> y.agreements(wrong, 0));
            Check.due("27: b", Check.INDEX, () -> y.agreements(0, wrong));
        }
    }

    private static void agreements() {
        PolyRegisters x = with("x^3 - 3*x^2 + 3*x", "x", "0", "5", NINES + "*x^12", "-" + NINES + "*x^12");
        Check.due("27: agreements", 3, () -> x.agreements(0, 1));
        Check.due("27: same", 4, () -> x.agreements(0, 0));
        Check.due("27: 0 and 0", 1, () -> x.agreements(2, 2));
        Check.due("27: 0 and a number", 0, () -> x.agreements(2, 3));
        Check.due("27: x and 5", 0, () -> x.agreements(1, 3));
        Check.due("27: x and 0", 1, () -> x.agreements(1, 2));
        Check.due("27: long", 1, () -> x.agreements(4, 5));
        Check.due("27: all of degree 12", 13, () -> x.agreements(4, 4));
        // The difference at 8 is 2^64: a long would take it for 0.
        PolyRegisters y = with("36028797018963968*x^3", "0");
        Check.due("27: beyond a long", 1, () -> y.agreements(0, 1));
    }

    private static void toldNumber() {
        PolyRegisters x = with("-x^12", NINES + "*x", "1000000000*x + 1", "x^2");
        Check.due("28: at first", 1, () -> x.digits(false));
        Check.due("28: at first, bottom", 1, () -> x.digits(true));
        Check.due("29: at first", 0, () -> x.digit(false, 0));
        Check.due("30: at first", 0L, () -> x.low(false));
        Check.due("30: at first, bottom", 1L, () -> x.low(true));
        x.value(0, 1000, 7);
        Check.due("28: top", 37, () -> x.digits(false));
        Check.due("28: bottom", 11, () -> x.digits(true));
        Check.due("29: highest", 1, () -> x.digit(false, 36));
        Check.due("29: lowest", 0, () -> x.digit(false, 0));
        Check.due("29: beyond", Check.INDEX, () -> x.digit(false, 37));
        Check.due("29: below", Check.INDEX, () -> x.digit(false, -1));
        Check.due("29: far", Check.INDEX, () -> x.digit(true, Integer.MAX_VALUE));
        Check.due("29: far below", Check.INDEX, () -> x.digit(true, Integer.MIN_VALUE));
        Check.due("29: bottom", 3, () -> x.digit(true, 9));
        Check.due("29: bottom's end", Check.INDEX, () -> x.digit(true, 11));
        Check.due("30: bottom", 13841287201L, () -> x.low(true));
        Check.due("30: top", new BigInteger("-1" + "0".repeat(36)).longValue(), () -> x.low(false));
        x.coefficient(1, 1);
        Check.due("28: 18 digits", 18, () -> x.digits(false));
        Check.due("30: 18 digits", 999999999999999999L, () -> x.low(false));
        x.value(2, 1, 1);
        Check.due("28: 10 digits", 10, () -> x.digits(false));
        Check.due("29: digit 9", 1, () -> x.digit(false, 9));
        Check.due("29: digit 8", 0, () -> x.digit(false, 8));
        Check.due("29: digit 10", Check.INDEX, () -> x.digit(false, 10));
        x.value(3, -1000, 999);
        Check.due("28: 7 digits", 7, () -> x.digits(false));
        Check.due("30: 998001", 998001L, () -> x.low(true));
    }

    private static void realRoots() {
        PolyRegisters x = with("(x - 1)^3*(x + 2)^2*(x^2 + 1)", "x^12 - 1", "5", "0", "x^12", "-x^3 + 2*x^2");
        Check.due("31: single ones", 2, () -> x.realRoots(0));
        Check.due("31: x^12 - 1", 2, () -> x.realRoots(1));
        Check.due("31: number", 0, () -> x.realRoots(2));
        Check.due("31: 0", Check.ARITHMETIC, () -> x.realRoots(3));
        Check.due("31: x^12", 1, () -> x.realRoots(4));
        Check.due("31: leading below 0", 2, () -> x.realRoots(5));
        Check.due("31: register", Check.INDEX, () -> x.realRoots(6));
        // The polynomial of Chebyshev of degree 12, and one whose remainders fall in a wide step.
        PolyRegisters y = with("2048*x^12 - 6144*x^10 + 6912*x^8 - 3584*x^6 + 840*x^4 - 72*x^2 + 1",
            "x^12 - " + NINES + "*x + 3", "-" + NINES + "*x^12 + " + NINES, "x^11 + x^5 - 7*x^4 + 1");
        Check.due("31: 12", 12, () -> y.realRoots(0));
        Check.due("31: two", 2, () -> y.realRoots(1));
        Check.due("31: long", 2, () -> y.realRoots(2));
        Check.due("31: three", 3, () -> y.realRoots(3));
    }

    private static void rootsBetween() {
        PolyRegisters x = with("x^3 - x", "(2*x - 1)^2*(x - 3)", "0", "7", "x^2 - 2");
        Check.due("32: all", 3, () -> x.rootsBetween(0, -3, 2, 3, 2));
        Check.due("32: some", 1, () -> x.rootsBetween(0, -1, 7, 6, 7));
        Check.due("32: none", 0, () -> x.rootsBetween(0, 1, 7, 6, 7));
        Check.due("32: more than once", 2, () -> x.rootsBetween(1, -1000, 1, 1000, 1));
        Check.due("32: a number", 0, () -> x.rootsBetween(3, -1000, 1, 1000, 1));
        Check.due("32: close", 1, () -> x.rootsBetween(4, 1000, 708, 1000, 707));
        Check.due("32: first is a root", Check.STATE, () -> x.rootsBetween(1, 500, 1000, 2, 1));
        Check.due("32: second is a root", Check.STATE, () -> x.rootsBetween(1, 0, 1, 3, 1));
        Check.due("32: same", Check.ARGUMENT, () -> x.rootsBetween(0, 1, 2, 2, 4));
        Check.due("32: wrong order", Check.ARGUMENT, () -> x.rootsBetween(0, 1, 2, 1, 3));
        Check.due("32: below 0", 1, () -> x.rootsBetween(4, -3, 2, -7, 5));
        Check.due("32: 0", Check.ARITHMETIC, () -> x.rootsBetween(2, 0, 1, 1, 1));
        Check.due("32: order before 0", Check.ARGUMENT, () -> x.rootsBetween(2, 1, 1, 0, 1));
        int[][] wrong = {{-1001, 1, 5, 1}, {0, 0, 5, 1}, {0, 1001, 5, 1}, {0, 1, 1001, 1}, {0, 1, 5, 0}, {0, 1, 5, 1001}, {0, -1, 5, 1}};
        for (int[] w : wrong) {
            Check.due("32: range", Check.ARGUMENT, () -> x.rootsBetween(2, w[0], w[1], w[2], w[3]));
        }
        Check.due("32: register", Check.INDEX, () -> x.rootsBetween(-1, 1, 0, 0, 0));
    }

    private static void sturm() {
        PolyRegisters x = with("x^3 - x", "(x - 1)^4", "7", "x - 5", "x^4 + 1", "0");
        Check.due("33: four", 4, () -> x.sturmLength(0));
        Check.due("33: stops at the common divisor", 2, () -> x.sturmLength(1));
        Check.due("33: number", 1, () -> x.sturmLength(2));
        Check.due("33: degree 1", 2, () -> x.sturmLength(3));
        Check.due("33: wide step", 3, () -> x.sturmLength(4));
        Check.due("33: 0", Check.ARITHMETIC, () -> x.sturmLength(5));
        Check.due("33: register", Check.INDEX, () -> x.sturmLength(6));
        Check.due("34: left of all", 3, () -> x.changes(0, -2, 1));
        Check.due("34: at a root", 2, () -> x.changes(0, -1, 1));
        Check.due("34: between", 2, () -> x.changes(0, -1, 2));
        Check.due("34: right of all", 0, () -> x.changes(0, 1000, 1));
        Check.due("34: at a root that is there often", 0, () -> x.changes(1, 1, 1));
        Check.due("34: left of it", 1, () -> x.changes(1, 999, 1000));
        Check.due("34: number", 0, () -> x.changes(2, 1, 2));
        Check.due("34: x^4 + 1 below 0", 1, () -> x.changes(4, -1, 3));
        Check.due("34: x^4 + 1 at 0", 1, () -> x.changes(4, 0, 3));
        Check.due("34: x^4 + 1 above 0", 1, () -> x.changes(4, 1, 3));
        Check.due("34: 0", Check.ARITHMETIC, () -> x.changes(5, 1, 1));
        Check.due("34: top", Check.ARGUMENT, () -> x.changes(5, 1001, 1));
        Check.due("34: bottom", Check.ARGUMENT, () -> x.changes(5, 1, 0));
        Check.due("34: register", Check.INDEX, () -> x.changes(6, 1, 0));
        // With -p instead of p all signs turn; the changes stay.
        PolyRegisters y = with("-x^3 + x", "-5*x^5 + 3*x - 1", "5*x^5 - 3*x + 1", "-3*x^2 + 12*x - 9");
        Check.due("34: turned", 3, () -> y.changes(0, -2, 1));
        for (int top = -3; top < 4; top++) {
            int t = top;
            Check.due("34: both signs at " + t, y.changes(2, t, 2), () -> y.changes(1, t, 2));
        }
        Check.due("34: at 2", 1, () -> y.changes(3, 2, 1));
        Check.due("34: at 3", 0, () -> y.changes(3, 3, 1));
    }

    private static void closeIn() {
        PolyRegisters x = with("x^2 - 2", "(x - 1)*(x - 1)*(1000*x - 1001)", "0", "x^2 + 1", "9", "(2*x + 7)*(x + 3)^3*(x - 2)");
        told("35: root of 2", x, 1, "1/1", () -> x.closeIn(0, 1, 0));
        told("35: 20 bits", x, 1, "1482910/1", () -> x.closeIn(0, 1, 20));
        told("35: below 0", x, -1, "-2/1", () -> x.closeIn(0, 0, 0));
        told("35: below 0, 20 bits", x, -1, "-1482911/1", () -> x.closeIn(0, 0, 20));
        told("35: whole", x, 1, "1/1", () -> x.closeIn(1, 0, 0));
        told("35: the next one behind it", x, 1, "1/1", () -> x.closeIn(1, 1, 0));
        told("35: apart", x, 1, "1025/1", () -> x.closeIn(1, 1, 10));
        told("35: -7/2", x, -1, "-4/1", () -> x.closeIn(5, 0, 0));
        told("35: -7/2 by halves", x, -1, "-7/1", () -> x.closeIn(5, 0, 1));
        told("35: -3", x, -1, "-3/1", () -> x.closeIn(5, 1, 0));
        told("35: 2", x, 1, "32/1", () -> x.closeIn(5, 2, 4));
        Check.due("35: no such root", Check.INDEX, () -> x.closeIn(0, 2, 0));
        Check.due("35: root -1", Check.INDEX, () -> x.closeIn(0, -1, 0));
        Check.due("35: 0", Check.INDEX, () -> x.closeIn(2, 0, 0));
        Check.due("35: no root", Check.INDEX, () -> x.closeIn(3, 0, 0));
        Check.due("35: number", Check.INDEX, () -> x.closeIn(4, 0, 0));
        Check.due("35: bits -1", Check.ARGUMENT, () -> x.closeIn(0, 0, -1));
        Check.due("35: bits 21", Check.ARGUMENT, () -> x.closeIn(0, 0, 21));
        Check.due("35: root before bits", Check.INDEX, () -> x.closeIn(0, 2, 21));
        Check.due("35: register", Check.INDEX, () -> x.closeIn(6, 0, 21));
        Check.due("35: exceptions tell nothing", "32/1", () -> Check.told(x, 1));
        PolyRegisters y = with("x - " + NINES, NINES + "*x - 1", "x*(x - 1)*(2*x - 1)", "x^2 - x - " + NINES, "-" + NINES + "*x + 999999999999999998");
        told("35: far", y, 1, "1048575999999999998951424/1", () -> y.closeIn(0, 0, 20));
        told("35: near 0", y, 0, "0/1", () -> y.closeIn(1, 0, 20));
        told("35: 0", y, 0, "0/1", () -> y.closeIn(2, 0, 0));
        told("35: 1/2 between whole ones", y, 0, "0/1", () -> y.closeIn(2, 1, 0));
        told("35: 1", y, 1, "1/1", () -> y.closeIn(2, 2, 0));
        told("35: great", y, 1, "1000000000/1", () -> y.closeIn(3, 1, 0));
        told("35: just below 1", y, 1, "1048575/1", () -> y.closeIn(4, 0, 20));
    }

    private static void fractionRoots() {
        PolyRegisters x = with("(2*x - 1)^2*(3*x + 5)*(x^2 - 2)*x^3", "x^2 - 2", "0", "7", "-6*x^2 + 5*x - 1", "(x - 1)*(x^2 - 2*x + 1)*(1000*x^2 - 2000*x + 999)");
        Check.due("36: fractionRoots", 3, () -> x.fractionRoots(0));
        told("37: first", x, -1, "-5/3", () -> x.fractionRoot(0, 0));
        told("37: 0", x, 0, "0/1", () -> x.fractionRoot(0, 1));
        told("37: last", x, 1, "1/2", () -> x.fractionRoot(0, 2));
        Check.due("37: no fourth", Check.INDEX, () -> x.fractionRoot(0, 3));
        Check.due("37: -1", Check.INDEX, () -> x.fractionRoot(0, -1));
        Check.due("36: none", 0, () -> x.fractionRoots(1));
        Check.due("37: none", Check.INDEX, () -> x.fractionRoot(1, 0));
        Check.due("36: 0", Check.ARITHMETIC, () -> x.fractionRoots(2));
        Check.due("37: 0", Check.INDEX, () -> x.fractionRoot(2, 0));
        Check.due("36: number", 0, () -> x.fractionRoots(3));
        Check.due("37: number", Check.INDEX, () -> x.fractionRoot(3, 0));
        Check.due("36: leading below 0", 2, () -> x.fractionRoots(4));
        told("37: 1/3", x, 1, "1/3", () -> x.fractionRoot(4, 0));
        Check.due("37: the told number stays", "1/3", () -> Check.told(x, 1));
        Check.due("36: others close by", 1, () -> x.fractionRoots(5));
        Check.due("36: register", Check.INDEX, () -> x.fractionRoots(-1));
        Check.due("37: register", Check.INDEX, () -> x.fractionRoot(6, 0));
        PolyRegisters y = with("(999999937*x - 999999929)*(999999937*x + 1)", NINES + "*x - 999999999999999998",
            "x - " + NINES, "-" + NINES + "*x + 6", "(x - 1)*(x^2 - 2*x - 1)", "x*(x - 1)*(x + 1)*(x - 2)*(x + 2)*(x - 3)*(x + 3)*(x - 4)*(x + 4)*(x - 5)*(x + 5)*(x - 6)");
        Check.due("36: long ones", 2, () -> y.fractionRoots(0));
        told("37: long", y, -1, "-1/999999937", () -> y.fractionRoot(0, 0));
        told("37: long", y, 1, "999999929/999999937", () -> y.fractionRoot(0, 1));
        told("37: nearly 1", y, 1, "999999999999999998/" + NINES, () -> y.fractionRoot(1, 0));
        told("37: whole", y, 1, NINES + "/1", () -> y.fractionRoot(2, 0));
        told("37: lowest terms", y, 1, "2/333333333333333333", () -> y.fractionRoot(3, 0));
        Check.due("36: whole between", 1, () -> y.fractionRoots(4));
        told("37: whole between", y, 1, "1/1", () -> y.fractionRoot(4, 0));
        Check.due("36: twelve", 12, () -> y.fractionRoots(5));
        told("37: eleventh", y, 1, "5/1", () -> y.fractionRoot(5, 10));
        told("37: twelfth", y, 1, "6/1", () -> y.fractionRoot(5, 11));
        Check.due("37: no thirteenth", Check.INDEX, () -> y.fractionRoot(5, 12));
    }

    private static void rootsByPrimes() {
        PolyRegisters x = with("x^2 - 2", "x^2 + 1", "0", "14", "x^7 - x", "-" + NINES + "*x^3 + 1");
        Check.due("38: by 7", 2, () -> x.rootsBy(0, 7));
        Check.due("39: by 7", 3, () -> x.rootBy(0, 7));
        Check.due("38: by 3", 0, () -> x.rootsBy(0, 3));
        Check.due("39: by 3", Check.NO_ELEMENT, () -> x.rootBy(0, 3));
        Check.due("38: by 97", 2, () -> x.rootsBy(1, 97));
        Check.due("39: by 97", 22, () -> x.rootBy(1, 97));
        Check.due("38: by 2", 1, () -> x.rootsBy(1, 2));
        Check.due("39: by 2", 1, () -> x.rootBy(1, 2));
        Check.due("38: 0", 13, () -> x.rootsBy(2, 13));
        Check.due("39: 0", 0, () -> x.rootBy(2, 13));
        Check.due("38: number", 7, () -> x.rootsBy(3, 7));
        Check.due("38: number", 0, () -> x.rootsBy(3, 5));
        Check.due("39: number", Check.NO_ELEMENT, () -> x.rootBy(3, 5));
        Check.due("38: all", 7, () -> x.rootsBy(4, 7));
        Check.due("39: least", 0, () -> x.rootBy(4, 7));
        Check.due("38: long", 0, () -> x.rootsBy(5, 3));
        Check.due("38: long by 97", bruteRoots(97), () -> x.rootsBy(5, 97));
        for (int wrong : new int[] {Integer.MIN_VALUE, -7, 0, 1, 4, 51, 91, 98, 99, 101, Integer.MAX_VALUE}) {
            Check.due("38: prime", Check.ARGUMENT, () -> x.rootsBy(0, wrong));
            Check.due("39: prime", Check.ARGUMENT, () -> x.rootBy(0, wrong));
        }
        Check.due("38: register", Check.INDEX, () -> x.rootsBy(6, 4));
        Check.due("39: register", Check.INDEX, () -> x.rootBy(-1, 4));
    }

    private static int bruteRoots(long prime) {
        int count = 0;
        for (long i = 0; i < prime; i++) {
            count += Math.floorMod(1 - 999_999_999_999_999_999L % prime * i * i * i, prime) == 0 ? 1 : 0;
        }
        return count;
    }

    private static void appendAndClear() {
        PolyRegisters x = new PolyRegisters();
        Check.due("41: nothing", 0, () -> x.append(0, 0, 0, 0, 0));
        Check.due("41: order, and no bytes that are 0", 6, () -> x.append('1' << 24 | '2', 0, '+' << 16 | 'x' << 8, 0, '^' << 24 | '3'));
        Check.due("14: what was appended", 3, () -> x.read(3));
        Check.due("14: what was appended", "x^3 + 12", () -> Check.written(x, 3));
        Check.due("43: no error", -1, x::errorPosition);
        Check.due("41: all bytes", 20, () -> x.append(-1, -1, -1, -1, -1));
        Check.due("14: bytes above 127", Check.ARGUMENT, () -> x.read(3));
        Check.due("43: bytes above 127", 0, x::errorPosition);
        for (int i = 1; i <= 10; i++) {
            int length = 20 * i;
            Check.due("41: length", length, () -> x.append(0x20202020, 0x20202020, 0x20202020, 0x20202020, 0x20202020));
        }
        Check.due("41: full", Check.STATE, () -> x.append(0, 0, 0, 0, 'x'));
        Check.due("41: nothing more fits", 200, () -> x.append(0, 0, 0, 0, 0));
        Check.due("42: clearText", 200, x::clearText);
        Check.due("42: again", 0, x::clearText);
        for (int i = 0; i < 9; i++) {
            x.append(0x20202020, 0x20202020, 0x20202020, 0x20202020, 0x20202020);
        }
        Check.due("41: 199", 199, () -> x.append(0x20202020, 0x20202020, 0x20202020, 0x20202020, 0x202020));
        Check.due("41: two are too many", Check.STATE, () -> x.append('x' << 24, 0, 0, 'x', 0));
        Check.due("41: nothing of it was appended", 200, () -> x.append(0, 0, 'x', 0, 0));
        Check.due("14: 200 bytes", 1, () -> x.read(3));
    }

    private static void write() {
        PolyRegisters x = with("-x^12 + x - 1", "2*x^2 - x", "0", "1", "-1", "-2*x");
        String[] texts = {"-x^12 + x - 1", "2*x^2 - x", "0", "1", "-1", "-2*x"};
        for (int i = 0; i < 6; i++) {
            int a = i;
            Check.due("44: length", texts[i].length(), () -> x.write(a));
            Check.due("45: text", texts[i], () -> Check.written(x, a));
        }
        Check.due("45: byte", (int) '-', () -> x.writtenAt(0));
        Check.due("45: last byte", (int) 'x', () -> x.writtenAt(3));
        Check.due("45: behind", Check.INDEX, () -> x.writtenAt(4));
        Check.due("45: ahead", Check.INDEX, () -> x.writtenAt(-1));
        Check.due("44: register", Check.INDEX, () -> x.write(6));
        Check.due("45: the text stays", (int) '2', () -> x.writtenAt(1));
        x.undo();
        Check.due("45: undo leaves the text", (int) '2', () -> x.writtenAt(1));
        x.errors();
        Check.due("45: errors leaves the text", (int) '2', () -> x.writtenAt(1));
        StringBuilder longest = new StringBuilder();
        for (int i = 12; i >= 0; i--) {
            x.setTerm(0, i, -999_999_999_999_999_999L);
            longest.append(i == 12 ? "-" : " - ").append(NINES).append(i == 0 ? "" : i == 1 ? "*x" : "*x^" + i);
        }
        Check.due("44: longest", longest.toString(), () -> Check.written(x, 0));
        Check.due("48: longest", 0, x::errors);
        PolyRegisters y = with("10*x^11 + 100*x^10 - 1000000000*x^9", "100000000000000000*x + 10");
        Check.due("44: zeros", "10*x^11 + 100*x^10 - 1000000000*x^9", () -> Check.written(y, 0));
        Check.due("44: zeros", "100000000000000000*x + 10", () -> Check.written(y, 1));
    }

    private static void measures() {
        PolyRegisters x = new PolyRegisters();
        Check.due("46: at first", 7 / 6.0, x::meanTerms);
        Check.due("47: at first", 0.5f, x::usedShare);
        Check.due("48: at first", 0, x::errors);
        x.subtract(0, 0, 0);
        Check.due("46: one less", 5 / 6.0, x::meanTerms);
        Check.due("47: one less", 2 / 6.0f, x::usedShare);
        x.subtract(1, 0, 0);
        x.subtract(2, 0, 0);
        Check.due("46: none", 0.0, x::meanTerms);
        Check.due("47: none", 0.0f, x::usedShare);
        Check.due("48: none", 0, x::errors);
        for (int i = 0; i < 6; i++) {
            Check.read(x, i, "(x + 1)^12");
        }
        Check.due("46: all", 13.0, x::meanTerms);
        Check.due("47: all", 1.0f, x::usedShare);
        Check.put(x, "x+");
        x.write(0);
        x.content(0);
        Check.due("48: all", 0, x::errors);
        Check.due("48: leaves the buffer", 2, x::clearText);
        Check.due("48: leaves the error position", -1, x::errorPosition);
        Check.due("48: leaves the told number", "1/1", () -> Check.told(x, 1));
        Check.due("48: is no change", 7, x::undo);
    }
}
