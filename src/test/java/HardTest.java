import java.math.BigInteger;
import java.util.concurrent.Callable;

/** Polynomials that need the most room on the way: dense and long, with wide steps between remainders, with close roots. */
public final class HardTest {
    private static final long GREATEST = 999_999_999_999_999_999L;
    private static long seed = 20261119;
    private static PolyRegisters mine;
    private static Model model;

    public static void main(String[] args) {
        for (int i = 0; i < 40; i++) {
            dense(i);
        }
        for (int i = 0; i < 150; i++) {
            sparse();
        }
        for (int i = 0; i < 120; i++) {
            byQuotients();
        }
        for (int i = 0; i < 60; i++) {
            closeRoots(i);
        }
        for (int i = 0; i < 40; i++) {
            severalTimes();
        }
        greatestOnes();
        Check.end();
    }

    private static void begin() {
        mine = new PolyRegisters();
        model = new Model();
    }

    /** Goes on with a new object, since one is used for at most 512 calls. */
    private static void goOn() {
        mine = new PolyRegisters();
        for (int a = 0; a < 6; a++) {
            for (int e = 0; e <= 12; e++) {
                if (model.term(a, e) != 0 || a < 3) {
                    mine.setTerm(a, e, model.term(a, e));
                }
            }
        }
        mine.content(0);
        model.content(0);
    }

    private static int any(int bound) {
        seed = seed * 6364136223846793005L + 1442695040888963407L;
        return (int) ((seed >>> 33) % bound);
    }

    private static long any() {
        long number = (long) any(1 << 30) * (1 << 30) + any(1 << 30);
        return number % GREATEST * (any(2) == 0 ? 1 : -1);
    }

    private static void same(String what, Callable<?> got, Callable<?> want) {
        Check.due(what, Check.answer(want), got);
    }

    private static void sameTold(String what) {
        for (boolean isBottom : new boolean[] {false, true}) {
            same(what + ": digits", () -> mine.digits(isBottom), () -> model.digits(isBottom));
            same(what + ": low", () -> mine.low(isBottom), () -> model.low(isBottom));
        }
        BigInteger top = model.toldTop.signum() < 0 ? model.toldTop.negate() : model.toldTop;
        Check.due(what, top + "/" + model.toldBottom, () -> Check.told(mine, 1));
    }

    private static void set(int to, int exponent, long coefficient) {
        mine.setTerm(to, exponent, coefficient);
        model.setTerm(to, exponent, coefficient);
    }

    private static void sameRow(String what, int a) {
        Check.due(what + ": length", model.write(a), () -> mine.write(a));
        StringBuilder text = new StringBuilder();
        for (int i = 0; i < model.write(a); i++) {
            text.append((char) model.writtenAt(i));
        }
        Check.due(what, text.toString(), () -> Check.written(mine, a));
    }

    /** All questions about roots of a register. */
    private static void roots(String what, int a) {
        goOn();
        same(what + ": sturmLength", () -> mine.sturmLength(a), () -> model.sturmLength(a));
        same(what + ": realRoots", () -> mine.realRoots(a), () -> model.realRoots(a));
        for (int top : new int[] {-1000, -999, -1, 0, 1, 7, 999, 1000}) {
            for (int bottom : new int[] {1, 3, 1000}) {
                same(what + ": changes", () -> mine.changes(a, top, bottom), () -> model.changes(a, top, bottom));
            }
        }
        same(what + ": rootsBetween", () -> mine.rootsBetween(a, -999, 1000, 997, 991), () -> model.rootsBetween(a, -999, 1000, 997, 991));
        int count = model.realRoots(a);
        for (int i = 0; i <= count; i++) {
            int root = i;
            int bits = any(21);
            if (i % 6 == 5 && i < count) {
                goOn();
            }
            same(what + ": closeIn", () -> mine.closeIn(a, root, bits), () -> model.closeIn(a, root, bits));
            sameTold(what + ": closeIn");
        }
        same(what + ": fractionRoots", () -> mine.fractionRoots(a), () -> model.fractionRoots(a));
        goOn();
        int fractions = model.fractionRoots(a);
        for (int i = 0; i <= fractions; i++) {
            int root = i;
            same(what + ": fractionRoot", () -> mine.fractionRoot(a, root), () -> model.fractionRoot(a, root));
            sameTold(what + ": fractionRoot");
        }
        same(what + ": simple", () -> mine.simple(5, a), () -> model.simple(5, a));
        sameRow(what + ": simple", 5);
    }

    private static void dense(int round) {
        begin();
        for (int i = 0; i <= 12; i++) {
            set(0, i, round < 4 ? GREATEST * (any(2) == 0 ? 1 : -1) : any());
            set(1, i, round < 4 ? GREATEST * (any(2) == 0 ? 1 : -1) : any());
        }
        roots("dense", 0);
        goOn();
        same("dense: gcd", () -> mine.gcd(2, 0, 1), () -> model.gcd(2, 0, 1));
        sameRow("dense: gcd", 2);
        same("dense: value", () -> mine.value(0, 1000, 999), () -> model.value(0, 1000, 999));
        sameTold("dense: value");
        same("dense: divides", () -> mine.divides(0, 1), () -> model.divides(0, 1));
        same("dense: agreements", () -> mine.agreements(0, 1), () -> model.agreements(0, 1));
        same("dense: divide", () -> mine.divide(3, 4, 0, 1), () -> model.divide(3, 4, 0, 1));
        same("dense: power", () -> mine.power(3, 0, 12), () -> model.power(3, 0, 12));
        same("dense: multiply", () -> mine.multiply(3, 0, 0), () -> model.multiply(3, 0, 0));
        set(3, 1, any());
        set(3, 0, any());
        same("dense: substitute", () -> mine.substitute(4, 0, 3), () -> model.substitute(4, 0, 3));
        same("dense: divide by degree 1", () -> mine.divide(4, 5, 0, 3), () -> model.divide(4, 5, 0, 3));
        same("dense: power of degree 1", () -> mine.power(4, 3, 12), () -> model.power(4, 3, 12));
        set(3, 1, any(2) == 0 ? 1 : -1);
        same("dense: divides by a short one", () -> mine.divides(3, 0), () -> model.divides(3, 0));
        set(3, 1, 0);
        same("dense: substitute a number", () -> mine.substitute(4, 0, 3), () -> model.substitute(4, 0, 3));
        same("dense: divide by a number", () -> mine.divide(4, 5, 0, 3), () -> model.divide(4, 5, 0, 3));
        same("dense: power of a number", () -> mine.power(4, 3, 12), () -> model.power(4, 3, 12));
        same("dense: errors", () -> mine.errors(), () -> 0);
    }

    /** Few terms make wide steps between the degrees of remainders. */
    private static void sparse() {
        begin();
        for (int a = 0; a < 2; a++) {
            for (int i = 0; i <= 12; i++) {
                set(a, i, i == 12 - 2 * a || any(5) == 0 ? any(3) == 0 ? any(9) - 4 : any() : 0);
            }
            roots("sparse", a);
        }
        same("sparse: gcd", () -> mine.gcd(3, 0, 1), () -> model.gcd(3, 0, 1));
        sameRow("sparse: gcd", 3);
        same("sparse: divide", () -> mine.divide(3, 4, 0, 1), () -> model.divide(3, 4, 0, 1));
    }

    /** Two polynomials from quotients of all degrees, the last remainder being a common divisor. */
    private static void byQuotients() {
        begin();
        BigInteger[] a = random(any(3), 5);
        BigInteger[] b = Model.poly();
        while (a.length == 0) {
            a = random(any(3), 5);
        }
        for (int i = 0; i < 12; i++) {
            BigInteger[] next = Model.plus(Model.times(random(1 + any(4), 4), a), b, 1);
            if (next.length > 13 || next.length <= a.length) {
                continue;
            }
            b = a;
            a = next;
        }
        setAll(0, a);
        setAll(1, b);
        same("quotients: gcd", () -> mine.gcd(2, 0, 1), () -> model.gcd(2, 0, 1));
        sameRow("quotients: gcd", 2);
        same("quotients: divides", () -> mine.divides(2, 0), () -> model.divides(2, 0));
        same("quotients: divides", () -> mine.divides(0, 2), () -> model.divides(0, 2));
        if (a.length > 0) {
            roots("quotients", 0);
        }
    }

    private static BigInteger[] random(int degree, int width) {
        long[] all = new long[degree + 1];
        for (int i = 0; i <= degree; i++) {
            all[i] = any(2 * width + 1) - width;
        }
        return Model.poly(all);
    }

    private static void setAll(int to, BigInteger[] p) {
        for (int i = 0; i <= 12; i++) {
            set(to, i, Model.at(p, i).longValueExact());
        }
    }

    private static void product(int to, int from) {
        same("product", () -> mine.multiply(to, to, from), () -> model.multiply(to, to, from));
    }

    private static void one(int to) {
        mine.power(to, to, 0);
        model.power(to, to, 0);
    }

    /** Roots nearer to each other than 2 to the power of -20, whole ones and fractions among them. */
    private static void closeRoots(int round) {
        begin();
        one(0);
        int bottom = 1 + any(round < 30 ? 5 : 1000);
        int top = any(2 * bottom + 1) - bottom;
        for (int i = 0; i < 4; i++) {
            for (int e = 0; e <= 12; e++) {
                set(1, e, 0);
            }
            long shift = any(3) - 1;
            set(1, 1, bottom * (i % 2 == 0 ? 1L : 5000L));
            set(1, 0, -(top * (i % 2 == 0 ? 1L : 5000L)) + shift);
            product(0, 1);
        }
        mine.coefficient(0, 0);
        model.coefficient(0, 0);
        set(0, 0, model.low(false) + any(2));
        if (model.degree(0) >= 0) {
            roots("close", 0);
        }
    }

    private static void severalTimes() {
        begin();
        one(0);
        for (int i = 0; i < 3; i++) {
            for (int e = 0; e <= 12; e++) {
                set(1, e, e <= 1 + any(2) ? any(19) - 9 : 0);
            }
            int exponent = 1 + any(3);
            same("several: power", () -> mine.power(1, 1, exponent), () -> model.power(1, 1, exponent));
            product(0, 1);
        }
        if (model.degree(0) >= 0) {
            roots("several", 0);
        }
    }

    /** The signs of the terms of a matrix of Hadamard make determinants, and so the remainders, as long as they can be. */
    private static void greatestOnes() {
        for (int bits = 0; bits < 1 << 12; bits += 37) {
            begin();
            for (int i = 0; i <= 12; i++) {
                set(0, i, GREATEST * ((bits >> i & 1) == 0 ? 1 : -1));
                set(1, i, GREATEST * ((bits * 5 >> i & 1) == 0 ? 1 : -1));
            }
            same("greatest: sturmLength", () -> mine.sturmLength(0), () -> model.sturmLength(0));
            same("greatest: changes", () -> mine.changes(0, -999, 1000), () -> model.changes(0, -999, 1000));
            set(1, 3, GREATEST - 1);
            same("greatest: gcd", () -> mine.gcd(2, 0, 1), () -> model.gcd(2, 0, 1));
            sameRow("greatest: gcd", 2);
        }
    }
}
