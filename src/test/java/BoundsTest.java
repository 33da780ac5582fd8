import java.math.BigInteger;

/** Section 1: the registers, the degree and the digits that they take, and that nothing on the way to a result is bounded. */
public final class BoundsTest {
    private static final String NINES = Twins.NINES;
    private static final long GREATEST = 999_999_999_999_999_999L;

    public static void main(String[] args) {
        everyRegister();
        for (int e = 0; e <= 12; e++) {
            sums(e);
            products(e);
            derivatives(e);
            terms(e);
        }
        powers();
        substitutions();
        quotients();
        remainders();
        divisors();
        degrees();
        runOver();
        longOnTheWay();
        Check.end();
    }

    private static PolyRegisters with(String... texts) {
        PolyRegisters x = new PolyRegisters();
        for (int i = 0; i < texts.length; i++) {
            Check.read(x, i, texts[i]);
        }
        return x;
    }

    private static void due(String what, PolyRegisters x, Object answer, Twins.Call call, int to, String text) {
        Check.due(what, answer, () -> call.of(x));
        Check.due(what + ": the register", text, () -> Check.written(x, to));
    }

    /** How a polynomial with one term is written. */
    private static String term(long c, int e) {
        String power = e == 0 ? "" : e == 1 ? "x" : "x^" + e;
        String size = "" + Math.abs(c);
        return (c < 0 ? "-" : "") + (c == 0 || e == 0 ? size : size.equals("1") ? power : size + "*" + power);
    }

    /** "There are 6 registers, numbered from 0, with a polynomial each." */
    private static void everyRegister() {
        String[] first = {"x^2 - 2", "x^3 - x", "6*x^2 - 5*x + 1", "0", "0", "0"};
        for (int i = 0; i < 6; i++) {
            int a = i;
            PolyRegisters x = new PolyRegisters();
            due("1: at first", x, new int[] {2, 3, 2, -1, -1, -1}[i], y -> y.degree(a), a, first[i]);
            due("1: setTerm", x, 12, y -> y.setTerm(a, 12, 5), a, i < 3 ? "5*x^12 + " + first[i] : "5*x^12");
            for (int j = 0; j < 6; j++) {
                int b = j;
                Check.due("1: register " + b + " beside " + a, i == j ? 12 : new int[] {2, 3, 2, -1, -1, -1}[j], () -> x.degree(b));
            }
            due("3: into " + i, x, -1, y -> y.subtract(a, a, a), a, "0");
            due("14: into " + i, x, 1, y -> Check.read(y, a, "x"), a, "x");
            due("17: into " + i, x, 1L, y -> y.interpolate(a), a, "0");
        }
    }

    /** "Each of its coefficients has at most 18 decimal digits": at each exponent, and on both sides of 0. */
    private static void sums(int e) {
        PolyRegisters x = with("0", "0", "0", "0", "7", "0");
        x.setTerm(0, e, GREATEST - 1);
        x.setTerm(1, e, 1);
        x.setTerm(2, e, 1 - GREATEST);
        due("2: 18 digits", x, e, y -> y.add(3, 0, 1), 3, term(GREATEST, e));
        due("2: 19 digits", x, Check.STATE, y -> y.add(4, 3, 1), 4, "7");
        due("2: twice as much", x, Check.STATE, y -> y.add(4, 3, 3), 4, "7");
        due("3: 18 digits below 0", x, e, y -> y.subtract(3, 2, 1), 3, term(-GREATEST, e));
        due("3: 19 digits below 0", x, Check.STATE, y -> y.subtract(4, 3, 1), 4, "7");
        due("3: twice as much", x, Check.STATE, y -> y.subtract(4, 0, 3), 4, "7");
        due("2: twice as much below 0", x, Check.STATE, y -> y.add(4, 2, 3), 4, "7");
        due("2: back from 18 digits", x, e, y -> y.add(3, 3, 1), 3, term(1 - GREATEST, e));
        due("3: to 0", x, -1, y -> y.subtract(5, 3, 2), 5, "0");
        due("2: to 0", x, -1, y -> y.add(5, 0, 2), 5, "0");
    }

    private static void products(int e) {
        PolyRegisters x = with("999999999", "1000000000", "-1000000000", "0", "0", "-999999999");
        x.setTerm(3, e, 1_000_000_001L);
        x.setTerm(4, e, 1_000_000_000L);
        due("4: 19 digits", x, Check.STATE, y -> y.multiply(1, 1, 4), 1, "1000000000");
        due("4: 19 digits below 0", x, Check.STATE, y -> y.multiply(2, 4, 2), 2, "-1000000000");
        due("4: 18 digits", x, e, y -> y.multiply(4, 0, 3), 4, term(GREATEST, e));
        due("4: 18 digits below 0", x, e, y -> y.multiply(4, 3, 5), 4, term(-GREATEST, e));
        due("4: times 1", x, e, y -> {
            y.power(0, 0, 0);
            return y.multiply(4, 4, 0);
        }, 4, term(-GREATEST, e));
        due("4: 36 digits", x, Check.STATE, y -> {
            y.setTerm(0, 0, GREATEST);
            return y.multiply(1, 0, 4);
        }, 1, "1000000000");
    }

    private static void derivatives(int e) {
        long most = GREATEST / Math.max(e, 1);
        for (long c : new long[] {1, -1, most, -most, most + 1, -most - 1, GREATEST, -GREATEST}) {
            PolyRegisters x = with("7", "0");
            boolean isTerm = Math.abs(c) <= GREATEST;
            Check.due("13: " + c + "*x^" + e, isTerm ? e + "" : Check.STATE, () -> x.setTerm(1, e, c));
            if (isTerm) {
                boolean isFitting = e == 0 || Math.abs(c) <= most;
                due("6: derive " + c + "*x^" + e, x, isFitting ? e - 1 + "" : Check.STATE, y -> y.derive(0, 1), 0,
                    isFitting ? term(e == 0 ? 0 : c * e, Math.max(e - 1, 0)) : "7");
            }
        }
    }

    private static void terms(int e) {
        PolyRegisters x = new PolyRegisters();
        due("13: 18 digits", x, e, y -> y.setTerm(5, e, GREATEST), 5, term(GREATEST, e));
        due("13: 18 digits below 0", x, e, y -> y.setTerm(5, e, -GREATEST), 5, term(-GREATEST, e));
        for (long c : new long[] {GREATEST + 1, -GREATEST - 1, Long.MAX_VALUE, Long.MIN_VALUE, Long.MIN_VALUE + 1, 1L << 62, -1L << 62}) {
            due("13: " + c, x, Check.STATE, y -> y.setTerm(5, e, c), 5, term(-GREATEST, e));
        }
        due("13: 0 takes the term away", x, -1, y -> y.setTerm(5, e, 0), 5, "0");
        due("13: 0 where there is none", x, -1, y -> y.setTerm(5, e, 0), 5, "0");
    }

    /** The greatest number whose power has 18 digits, for each exponent; times x too, as far as the degree goes. */
    private static void powers() {
        long[] greatest = {0, GREATEST, 999999999, 999999, 31622, 3981, 999, 372, 177, 99, 63, 43, 31};
        for (int n = 2; n <= 12; n++) {
            int exponent = n;
            for (int e = 0; e * n <= 12; e++) {
                for (int sign = -1; sign <= 1; sign += 2) {
                    PolyRegisters x = with("7", "0");
                    x.setTerm(1, e, sign * greatest[n]);
                    BigInteger power = BigInteger.valueOf(sign * greatest[n]).pow(n);
                    due("5: " + sign * greatest[n] + "^" + n, x, e * n, y -> y.power(0, 1, exponent), 0, term(power.longValueExact(), e * n));
                    x.setTerm(1, e, sign * (greatest[n] + 1));
                    due("5: " + sign * (greatest[n] + 1) + "^" + n, x, Check.STATE, y -> y.power(0, 1, exponent), 0,
                        term(power.longValueExact(), e * n));
                }
            }
        }
        PolyRegisters x = with(NINES + "*x^12 - " + NINES, "0");
        due("5: to the power 1", x, 12, y -> y.power(1, 0, 1), 1, NINES + "*x^12 - " + NINES);
        due("5: to the power 0", x, 0, y -> y.power(1, 0, 0), 1, "1");
        for (int n = 0; n <= 12; n++) {
            int exponent = n;
            due("5: 0 to the power " + n, with("7", "0"), n == 0 ? 0 : -1, y -> y.power(0, 1, exponent), 0, n == 0 ? "1" : "0");
            due("5: x to the power " + n, with("7", "x"), n, y -> y.power(0, 1, exponent), 0, term(1, n));
        }
    }

    private static void substitutions() {
        PolyRegisters x = with("x^2", "999999999", "1000000000", "-x^12", "31", "32");
        due("7: 18 digits", x, 0, y -> y.substitute(1, 0, 1), 1, "999999998000000001");
        due("7: 19 digits", x, Check.STATE, y -> y.substitute(1, 0, 2), 1, "999999998000000001");
        due("7: 18 digits below 0", x, 0, y -> y.substitute(1, 3, 4), 1, "-787662783788549761");
        due("7: 19 digits below 0", x, Check.STATE, y -> y.substitute(1, 3, 5), 1, "-787662783788549761");
        PolyRegisters z = with("x + 1", NINES, "-x + 1", "-" + NINES, NINES + "*x", "x + 2");
        due("7: 19 digits at the exponent 0", z, Check.STATE, y -> y.substitute(4, 0, 1), 4, NINES + "*x");
        due("7: 19 digits by a sign", z, Check.STATE, y -> y.substitute(4, 2, 3), 4, NINES + "*x");
        due("7: 18 digits by a sign", z, 0, y -> y.substitute(3, 0, 3), 3, "-999999999999999998");
        due("7: 19 digits by a sum", z, Check.STATE, y -> y.substitute(1, 4, 5), 1, NINES);
        due("7: a number takes nothing in", z, 0, y -> y.substitute(0, 1, 4), 0, NINES);
    }

    private static void quotients() {
        PolyRegisters x = with("999999999*x^2", "1000000001*x", "1000000000*x^2", "1000000000*x", "-1000000001*x", "7");
        due("8: quotient of 18 digits", x, 2, y -> y.divide(5, 4, 0, 1), 5, NINES + "*x");
        due("8: its remainder", x, 5, y -> 5, 4, "0");
        due("8: quotient of 19 digits", x, Check.STATE, y -> y.divide(5, 4, 2, 3), 5, NINES + "*x");
        due("8: its remainder stays", x, 5, y -> 5, 4, "0");
        due("8: undone", x, 6, PolyRegisters::undo, 4, "-1000000001*x");
        due("8: quotient of 18 digits, c below 0", x, 2, y -> y.divide(5, 3, 0, 4), 5, "-" + NINES + "*x");
        PolyRegisters z = with("-1000000000*x^2", "1000000000*x + 1", "7", "8");
        due("8: quotient of 19 digits below 0", z, Check.STATE, y -> y.divide(2, 3, 0, 1), 2, "7");
        due("8: n stays", z, Check.STATE, y -> y.divide(3, 2, 0, 1), 3, "8");
        PolyRegisters w = with("x^12", "-10*x", "x^12", "31*x", "32*x", "0");
        due("8: c^11 of 12 digits", w, 12, y -> y.divide(0, 5, 2, 1), 0, "-100000000000*x^11");
        due("8: 31^11", w, 12, y -> y.divide(0, 5, 2, 3), 0, "25408476896404831*x^11");
        due("8: 32^11", w, 12, y -> y.divide(0, 5, 2, 4), 0, "36028797018963968*x^11");
    }

    private static void remainders() {
        PolyRegisters x = with("x^2", "x + 999999999", "-x^2", "x + 1000000000", "7", "8");
        due("8: remainder of 18 digits", x, 2, y -> y.divide(4, 5, 0, 1), 5, "999999998000000001");
        due("8: remainder of 18 digits below 0", x, 2, y -> y.divide(4, 5, 2, 1), 5, "-999999998000000001");
        due("8: its quotient", x, 5, y -> 5, 4, "-x + 999999999");
        due("8: remainder of 19 digits", x, Check.STATE, y -> y.divide(4, 5, 0, 3), 5, "-999999998000000001");
        due("8: remainder of 19 digits below 0", x, Check.STATE, y -> y.divide(4, 5, 2, 3), 5, "-999999998000000001");
        due("8: its quotient stays", x, 5, y -> 5, 4, "-x + 999999999");
        // Both the quotient and the remainder are in order if a is left as it is.
        PolyRegisters z = with(NINES + "*x^3 - " + NINES, "-" + NINES + "*x^4 + " + NINES, "7", "8");
        due("8: all is left", z, 0, y -> y.divide(2, 3, 0, 1), 3, NINES + "*x^3 - " + NINES);
        due("8: no quotient", z, 5, y -> 5, 2, "0");
    }

    /** Greatest common divisors and simple parts may be longer than what they divide. */
    private static void divisors() {
        PolyRegisters x = with(NINES + "*x^12 - " + NINES, "-" + NINES + "*x^12 + " + NINES, "7", NINES, "-" + NINES, "0");
        due("9: 18 digits", x, 12, y -> y.gcd(2, 0, 1), 2, NINES + "*x^12 - " + NINES);
        due("9: 18 digits with 0", x, 12, y -> y.gcd(2, 1, 5), 2, NINES + "*x^12 - " + NINES);
        due("9: numbers of 18 digits", x, 0, y -> y.gcd(2, 3, 4), 2, NINES);
        due("9: numbers below 0", x, 0, y -> y.gcd(2, 4, 4), 2, NINES);
        due("9: number and 0", x, 0, y -> y.gcd(2, 4, 5), 2, NINES);
        due("10: 18 digits", x, 12, y -> y.primitive(2, 1), 2, "x^12 - 1");
        due("10: number", x, 0, y -> y.primitive(2, 4), 2, "1");
        due("11: 18 digits", x, 12, y -> y.simple(2, 1), 2, "x^12 - 1");
        due("11: number", x, 0, y -> y.simple(2, 4), 2, "1");
        due("12: 18 digits", x, 12, y -> y.residue(2, 1, 17), 2, "3*x^12 + 14");
        due("12: 18 digits, divided", x, -1, y -> y.residue(2, 1, 37), 2, "0");
    }

    /** "A polynomial in a register has at most the degree 12." */
    private static void degrees() {
        for (int a = 0; a <= 12; a++) {
            for (int b = 0; b <= 12; b++) {
                PolyRegisters x = with("0", "0", "7");
                x.setTerm(0, a, 1);
                x.setTerm(1, b, 1);
                int exponent = b;
                due("4: degree " + a + " + " + b, x, a + b <= 12 ? "" + (a + b) : Check.STATE, y -> y.multiply(2, 0, 1), 2,
                    a + b <= 12 ? term(1, a + b) : "7");
                Check.read(x, 2, "7");
                due("7: degree " + a + " * " + b, x, a * b <= 12 ? "" + a * b : Check.STATE, y -> y.substitute(2, 0, 1), 2,
                    a * b <= 12 ? term(1, a * b) : "7");
                Check.read(x, 2, "7");
                due("5: degree " + a + " * " + b, x, a * b <= 12 ? "" + a * b : Check.STATE, y -> y.power(2, 0, exponent), 2,
                    a * b <= 12 ? term(1, a * b) : "7");
            }
        }
        PolyRegisters x = with("x^12", "0", "7");
        due("4: x^12 times 0", x, -1, y -> y.multiply(2, 0, 1), 2, "0");
        due("4: 0 times x^12", x, -1, y -> y.multiply(2, 1, 0), 2, "0");
        due("7: 0 in x^12", x, -1, y -> y.substitute(2, 0, 1), 2, "0");
        due("7: x^12 in 0", x, -1, y -> y.substitute(2, 1, 0), 2, "0");
        // The terms above the degree 12 do not cancel out; those below may.
        PolyRegisters z = with("x^12 + x", "x^12 - x", "7", "x^6 + x^3", "x^6 - x^3");
        due("3: degrees fall", z, 1, y -> y.subtract(2, 0, 1), 2, "2*x");
        due("4: x^12 - x^6", z, 12, y -> y.multiply(2, 3, 4), 2, "x^12 - x^6");
        due("4: degree 24", z, Check.STATE, y -> y.multiply(2, 0, 1), 2, "x^12 - x^6");
    }

    /** Numbers whose products run over 64 bits into small ones. */
    private static void runOver() {
        PolyRegisters x = with("4294967296", "7", "x^2", "274177", "67280421310721", "65536*x");
        due("4: 2^64", x, Check.STATE, y -> y.multiply(1, 0, 0), 1, "7");
        due("5: 2^64", x, Check.STATE, y -> y.power(1, 0, 2), 1, "7");
        due("5: 2^128", x, Check.STATE, y -> y.power(1, 0, 4), 1, "7");
        due("7: 2^64", x, Check.STATE, y -> y.substitute(1, 2, 0), 1, "7");
        due("4: 2^64 + 1", x, Check.STATE, y -> y.multiply(1, 3, 4), 1, "7");
        due("5: 2^64 * x^4", x, Check.STATE, y -> y.power(1, 5, 4), 1, "7");
        due("5: 2^192 * x^12", x, Check.STATE, y -> y.power(1, 5, 12), 1, "7");
        PolyRegisters z = with("4294967296*x", "4294967296*x + 1", "7", "8", "x^12", "16*x");
        due("8: quotient 2^64", z, Check.STATE, y -> y.divide(2, 3, 4, 0), 2, "7");
        due("8: remainder 2^96 and more", z, Check.STATE, y -> y.divide(2, 3, 4, 1), 2, "7");
        due("8: 16^11", z, 12, y -> y.divide(2, 3, 4, 5), 2, "17592186044416*x^11");
        Check.due("24: 2^64", 1, () -> z.value(4, 64, 1));
        Check.due("24: 2^72 is no 0", "4722366482869645213696/1", () -> Check.told(z, 1));
        Check.due("24: at 1/64", 1, () -> z.value(4, 1, 64));
        Check.due("24: bottom 2^72", "1/4722366482869645213696", () -> Check.told(z, 1));
        Check.read(z, 2, "x^8");
        Check.read(z, 3, "0");
        Check.due("27: 2^64 at 256 is no place, 8 places differ", 1, () -> z.agreements(2, 3));
    }

    /** "What comes up on the way to a result has no bounds." */
    private static void longOnTheWay() {
        long m = 40_000_000_000_000_000L;
        PolyRegisters x = with("40000000000000000*(x+1)^6", "(x-1)^6", "7", "8", "100000000000000000*x + 1", "100000000000000000*x - 1");
        due("4: inner sums of 1.6 * 10^19", x, 12, y -> y.multiply(2, 0, 1), 2, m + "*x^12 - " + 6 * m + "*x^10 + " + 15 * m + "*x^8 - "
            + 20 * m + "*x^6 + " + 15 * m + "*x^4 - " + 6 * m + "*x^2 + " + m);
        due("8: 10^34 on the way", x, 1, y -> y.divide(2, 3, 4, 5), 3, "200000000000000000");
        due("8: its quotient", x, 5, y -> 5, 2, "100000000000000000");
        PolyRegisters z = with("x^3 - 1000000000*x^2 + 1", "1000000000", "x^12 - " + NINES + "*x^11 + 5", NINES, "7", "1");
        due("7: 10^27 on the way", z, 0, y -> y.substitute(4, 0, 1), 4, "1");
        due("7: 10^216 on the way", z, 0, y -> y.substitute(4, 2, 3), 4, "5");
        PolyRegisters w = with("x^2 - " + NINES + "*x", "7", NINES, "-" + NINES + "*x^12 + 1", NINES + "*x^12 + 2");
        Check.due("24: 36 digits on the way", 1, () -> {
            w.power(1, 1, 1);
            return w.value(4, 1, 1000);
        });
        Check.due("27: 19 digits on the way", 0, () -> w.agreements(3, 4));
        Check.due("9: no common divisor", 0, () -> w.gcd(1, 3, 4));
        Check.due("9: no common divisor", "1", () -> Check.written(w, 1));
        Check.due("25: 36 digits on the way", false, () -> w.divides(0, 4));
        Check.due("25: x^2 - 99..9*x does not divide x^12 + ..", false, () -> w.divides(0, 3));
    }
}
