import java.math.BigInteger;

/** Sections 2 to 6 of the document's terms: divisions, the told number, roots, residues, points; and the measures. */
public final class TermsTest {
    private static final String NINES = Twins.NINES;

    public static void main(String[] args) {
        divisions();
        contents();
        commonDivisors();
        dividing();
        toldAfter();
        fractions();
        digits();
        bits();
        knownRoots();
        squareRoots();
        rootsNearWholeNumbers();
        manyRoots();
        rowsOfSturm();
        primes();
        pointBounds();
        manyPoints();
        shapes();
        measures();
        Check.end();
    }

    private static PolyRegisters with(String... texts) {
        PolyRegisters x = new PolyRegisters();
        for (int i = 0; i < texts.length; i++) {
            Check.read(x, i, texts[i]);
        }
        return x;
    }

    private static void due(String what, PolyRegisters x, Object answer, Twins.Call call, int to, String text) {
        Check.due(what, answer, () -> call.of(x));
        Check.due(what + ": the register", text, () -> Check.written(x, to));
    }

    private static void told(String what, PolyRegisters x, int sign, String number, Twins.Call call) {
        Check.due(what, sign, () -> call.of(x));
        Check.due(what + ": the told number", number, () -> Check.told(x, sign));
        boolean isBelow = number.startsWith("-");
        String top = number.substring(0, number.indexOf('/'));
        Check.due(what + ": low", new BigInteger(top).longValue(), () -> x.low(false));
        Check.due(what + ": low of the bottom", new BigInteger(number.substring(top.length() + 1)).longValue(), () -> x.low(true));
        Check.due(what + ": sign", isBelow, () -> sign < 0);
    }

    // ---- Section 2

    /** "Let n be the degree of a less that of b, and 1 more, or 0 if this is below 0." */
    private static void divisions() {
        for (int a = -1; a <= 12; a++) {
            for (int b = 0; b <= 12; b++) {
                PolyRegisters x = new PolyRegisters();
                int n = Math.max(a - b + 1, 0);
                if (a >= 0) {
                    x.setTerm(3, a, 3);
                }
                x.setTerm(4, b, 2);
                Check.due("8: n for the degrees " + a + " and " + b, n, () -> x.divide(0, 1, 3, 4));
                // 2^n * 3 * x^a = q * 2 * x^b
                long c = n == 0 ? 0 : 3L << n - 1;
                Check.due("8: degree of the quotient", n == 0 ? -1 : a - b, () -> x.degree(0));
                int top = Math.max(a - b, 0);
                Check.due("8: the quotient", n == 0 ? 0 : 1, () -> x.coefficient(0, top));
                Check.due("8: its coefficient", c, () -> x.low(false));
                Check.due("8: the remainder", n == 0 ? a : -1, () -> x.degree(1));
            }
        }
        PolyRegisters x = with("x^2 + x + 1", "-3*x + 2", "0", "0", "-3", "5");
        due("8: c^n below 0", x, 2, y -> y.divide(2, 3, 0, 1), 2, "-3*x - 5");
        due("8: its remainder", x, 0, y -> y.degree(3), 3, "19");
        due("8: n counts steps that are not needed", with("x^3", "2*x"), 3, y -> y.divide(2, 3, 0, 1), 2, "4*x^2");
        due("8: lesser degree", x, 0, y -> y.divide(2, 3, 1, 0), 3, "-3*x + 2");
        due("8: lesser degree, quotient", x, 2, y -> y.degree(0), 2, "0");
        due("8: number by number", x, 1, y -> y.divide(2, 3, 5, 4), 2, "5");
        due("8: nothing is left", x, -1, y -> y.degree(3), 3, "0");
        due("8: 0 by a number", x, 0, y -> y.divide(2, 5, 3, 4), 2, "0");
    }

    /** "The content is the greatest whole number that divides all its coefficients; 0 for the polynomial 0." */
    private static void contents() {
        String[] texts = {"0", "1", "-1", "7", "-7", "x", "-x", "6*x + 4", "-6*x - 4", "-6*x^12 + 9*x^5 - 15", NINES, "-" + NINES + "*x^12",
            NINES + "*x^12 + 3", "999999999999999998*x + 999999999999999999", "10*x^3 - 15*x^2 + 6*x", "0*x^2 + 12*x^3 - 18"};
        String[] contents = {"0", "1", "1", "7", "7", "1", "1", "2", "2", "3", NINES, NINES, "3", "1", "1", "6"};
        String[] primitives = {"0", "1", "1", "1", "1", "x", "x", "3*x + 2", "3*x + 2", "2*x^12 - 3*x^5 + 5", "1", "x^12",
            "333333333333333333*x^12 + 1", "999999999999999998*x + 999999999999999999", "10*x^3 - 15*x^2 + 6*x", "2*x^3 - 3"};
        for (int i = 0; i < texts.length; i++) {
            PolyRegisters x = with(texts[i]);
            int k = i;
            told("23: content of " + texts[i], x, i == 0 ? 0 : 1, contents[i] + "/1", y -> y.content(0));
            Check.due("10: primitive of " + texts[i], x.degree(0), () -> x.primitive(3, 0));
            Check.due("10: primitive of " + texts[i], primitives[k], () -> Check.written(x, 3));
            told("23: content of a primitive part", x, i == 0 ? 0 : 1, (i == 0 ? 0 : 1) + "/1", y -> y.content(3));
        }
    }

    /** "If both are 0, it is 0"; contents belong to it, and its leading coefficient is above 0. */
    private static void commonDivisors() {
        String[][] all = {{"0", "0", "0"}, {"0", "-4*x + 6", "4*x - 6"}, {"-4*x + 6", "0", "4*x - 6"}, {"12", "18", "6"}, {"-12", "18", "6"},
            {"12", "18*x^2 - 30", "6"}, {"-1", "0", "1"}, {"2*x", "4*x", "2*x"}, {"-2*x", "-4*x", "2*x"}, {"2*x + 2", "3*x + 3", "x + 1"},
            {"x^12 - 1", "x^8 - 1", "x^4 - 1"}, {"x^12 - 1", "x^5 - 1", "x - 1"}, {"2*x + 1", "x + 2", "1"}, {"6*x + 3", "3*x + 6", "3"},
            {"(2*x-1)^3*(x+3)", "-(2*x-1)^2*(x-3)*6", "4*x^2 - 4*x + 1"}, {"(x^2+1)^3*4", "(x^2+1)^2*(x-1)*6", "2*x^4 + 4*x^2 + 2"},
            {"x^6 - x^3", "x^9 - x^6", "x^6 - x^3"}, {"x^7", "x^3", "x^3"}, {"x^12", "-" + NINES, "1"}};
        for (String[] each : all) {
            PolyRegisters x = with(each[0], each[1]);
            String what = "9: gcd of " + each[0] + " and " + each[1];
            Check.due(what, each[2], () -> {
                x.gcd(3, 0, 1);
                return Check.written(x, 3);
            });
            Check.due(what + ": degree", x.degree(3), () -> x.gcd(4, 1, 0));
            Check.due(what + ": the other way round", true, () -> x.areSame(3, 4));
            Check.due(what + " divides the first", true, () -> x.divides(3, 0));
            Check.due(what + " divides the second", true, () -> x.divides(3, 1));
        }
        String[][] simple = {{"1", "1"}, {"-" + NINES, "1"}, {"6*x", "x"}, {"-x^12", "x"}, {"4*x^2 - 4", "x^2 - 1"}, {"-(x-1)^5*(x+1)", "x^2 - 1"},
            {"(x^2+1)^6", "x^2 + 1"}, {"(x^2+x+1)^2*(x-1)^3*5", "x^3 - 1"}, {"(2*x-3)^4", "2*x - 3"}, {"(3-2*x)^3", "2*x - 3"},
            {"(x^3-2)^4", "x^3 - 2"}, {"(x^4-1)^2*(x^2-1)", "x^4 - 1"}, {"x^3 - x", "x^3 - x"}, {"6*x^2 - 5*x + 1", "6*x^2 - 5*x + 1"},
            {"(x+1)*(x+2)^2*(x+3)^3", "x^3 + 6*x^2 + 11*x + 6"}, {"12*(2*x+1)^2*(3*x+1)", "6*x^2 + 5*x + 1"}};
        for (String[] each : simple) {
            PolyRegisters x = with(each[0]);
            due("11: simple part of " + each[0], x, with(each[1]).degree(0), y -> y.simple(0, 0), 0, each[1]);
        }
    }

    /** "A polynomial divides another one if some polynomial times the first one is the second one": without fractions. */
    private static void dividing() {
        String[] yes = {"1|x", "-1|x", "x|x", "-x|x", "x|-x^2", "2|4*x + 6", "x - 1|x^12 - 1", "x^12 - 1|x^12 - 1", "x^12 - 1|0", "0|0", "7|0",
            "2*x - 1|(2*x-1)^2*3", "-2*x + 1|(2*x-1)^2*3", "3|-" + NINES, NINES + "|" + NINES + "*x^12", "x^2 + x + 1|x^3 - 1", "-3|9"};
        String[] no = {"2|x", "2|4*x + 3", "x|1", "x|x + 1", "x^2|x", "x^12 - 1|x - 1", "0|1", "0|x", "0|-" + NINES, "2*x - 1|x^2", "2*x + 2|x^2 - 1",
            "x - 1|x^12 + 1", "9|3", NINES + "|" + "999999999999999998", "2*x|x^2", "3*x|3*x + 1", "x + 1|x^2 + 1"};
        for (String each : yes) {
            PolyRegisters x = with(each.split("\\|"));
            Check.due("25: " + each, true, () -> x.divides(0, 1));
        }
        for (String each : no) {
            PolyRegisters x = with(each.split("\\|"));
            Check.due("25: " + each, false, () -> x.divides(0, 1));
        }
        for (int a = 0; a < 6; a++) {
            for (int b = 0; b < 6; b++) {
                PolyRegisters x = with("x", "-x", "x", "0", "1", "0");
                int first = a;
                int other = b;
                boolean isSame = a == b || a + b == 2 && a != 1 || a + b == 8 && a != 4;
                Check.due("26: " + a + " and " + b, isSame, () -> x.areSame(first, other));
            }
        }
    }

    // ---- Section 3

    /** "Which is kept until the next call that tells one": each telling call after each other one, tops and bottoms alike. */
    private static void toldAfter() {
        Twins.Call[] calls = {y -> y.coefficient(4, 12), y -> y.coefficient(4, 11), y -> y.content(4), y -> y.content(3), y -> y.value(2, 3, 7),
            y -> y.value(4, 1, 1000), y -> y.value(4, 1000, 1), y -> y.value(2, 1, 2), y -> y.closeIn(0, 0, 20), y -> y.closeIn(0, 1, 0),
            y -> y.fractionRoot(2, 0), y -> y.fractionRoot(1, 0), y -> y.fractionRoot(1, 1)};
        int[] signs = {-1, 0, 1, 0, -1, -1, -1, 0, -1, 1, 1, -1, 0};
        String[] numbers = {"-" + NINES + "/1", "0/1", NINES + "/1", "0/1", "-2/49", "-" + NINES + "/1" + "0".repeat(36),
            "-" + NINES + "0".repeat(36) + "/1", "0/1", "-1482911/1", "1/1", "1/3", "-1/1", "0/1"};
        for (int first = 0; first < calls.length; first++) {
            for (int next = 0; next < calls.length; next++) {
                PolyRegisters x = with("x^2 - 2", "x^3 - x", "6*x^2 - 5*x + 1", "0", "-" + NINES + "*x^12");
                int before = first;
                Check.due("3: call " + before, signs[before], () -> calls[before].of(x));
                told("3: call " + next + " after " + first, x, signs[next], numbers[next], calls[next]);
            }
        }
    }

    /** "A fraction is told by a top of -1000 to 1000 and a bottom of 1 to 1000; it need not be in lowest terms." */
    private static void fractions() {
        PolyRegisters x = with("x", "x^2", "x^2 - 1", "7", "0", "1000*x - 1");
        told("24: top 1000", x, 1, "1000/1", y -> y.value(0, 1000, 1));
        told("24: top -1000", x, -1, "-1000/1", y -> y.value(0, -1000, 1));
        told("24: bottom 1000", x, 1, "1/1000", y -> y.value(0, 1, 1000));
        told("24: top and bottom 1000", x, 1, "1/1", y -> y.value(0, 1000, 1000));
        told("24: top -1000, bottom 1000", x, -1, "-1/1", y -> y.value(0, -1000, 1000));
        told("24: top 0", x, 0, "0/1", y -> y.value(0, 0, 1000));
        told("24: top 999", x, 1, "998001/1000000", y -> y.value(1, 999, 1000));
        told("24: below 0", x, -1, "-3/4", y -> y.value(2, -250, 500));
        told("24: a number", x, 1, "7/1", y -> y.value(3, -250, 999));
        told("24: 0", x, 0, "0/1", y -> y.value(4, -250, 999));
        told("24: a root", x, 0, "0/1", y -> y.value(5, 1, 1000));
        told("24: beside a root", x, 1, "1/999", y -> y.value(5, 1, 999));
        for (int top = -12; top <= 12; top++) {
            for (int bottom = 1; bottom <= 12; bottom++) {
                PolyRegisters z = new PolyRegisters();
                int g = BigInteger.valueOf(top).gcd(BigInteger.valueOf(bottom)).intValue();
                int t = top;
                int b = bottom;
                z.setTerm(3, 1, 1);
                told("24: " + t + "/" + b, z, Integer.signum(t), t / g + "/" + b / g, y -> y.value(3, t, b));
                Check.due("34: as in lowest terms", z.changes(1, t / g, b / g), () -> z.changes(1, t * 83, b * 83));
                Check.due("32: as in lowest terms", Check.answer(() -> z.rootsBetween(1, t / g, b / g, 13, 1)),
                    () -> z.rootsBetween(1, t * 83, b * 83, 13, 1));
            }
        }
    }

    /** "The number of decimal digits, without a sign", and each of them, around all numbers of new length. */
    private static void digits() {
        for (int length = 1; length <= 18; length++) {
            long ten = Long.parseLong("1" + "0".repeat(length - 1));
            for (long number : new long[] {ten, ten - 1, ten + 1, 7 * ten, -ten, 1 - ten, -ten - 1}) {
                PolyRegisters x = new PolyRegisters();
                x.setTerm(3, 0, number);
                String size = "" + Math.abs(number);
                told("22: " + number, x, Long.signum(number), number + "/1", y -> y.coefficient(3, 0));
                Check.due("28: digits of " + number, size.length(), () -> x.digits(false));
                Check.due("28: digits of its bottom", 1, () -> x.digits(true));
                for (int i = 0; i < size.length(); i++) {
                    int place = i;
                    Check.due("29: digit " + i + " of " + number, size.charAt(size.length() - 1 - i) - '0', () -> x.digit(false, place));
                }
                for (int place : new int[] {-1, size.length(), size.length() + 1, Integer.MAX_VALUE, Integer.MIN_VALUE}) {
                    Check.due("29: no digit " + place, Check.INDEX, () -> x.digit(false, place));
                }
                Check.due("29: bottom", 1, () -> x.digit(true, 0));
                Check.due("29: bottom has no digit 1", Check.INDEX, () -> x.digit(true, 1));
            }
        }
        PolyRegisters x = with("x^12");
        for (int top = 1; top <= 1000; top *= 10) {
            x.value(0, top, 1000);
            int zeros = top == 1000 ? 0 : top == 100 ? 12 : top == 10 ? 24 : 36;
            Check.due("28: digits of 1 by 10^" + zeros, zeros + 1, () -> x.digits(true));
            Check.due("29: its first digit", 1, () -> x.digit(true, zeros));
            Check.due("29: ahead of it", Check.INDEX, () -> x.digit(true, zeros + 1));
            Check.due("29: its last digit", zeros == 0 ? 1 : 0, () -> x.digit(true, 0));
        }
    }

    /** "The lowest 64 bits, as a two's complement": around all powers of 2 to the power of 16. */
    private static void bits() {
        for (int e = 0; e <= 12; e++) {
            for (int factor : new int[] {2, 16, 256, 512, 1000}) {
                for (int more = -1; more <= 1; more++) {
                    for (int sign = -1; sign <= 1; sign += 2) {
                        PolyRegisters x = new PolyRegisters();
                        x.setTerm(3, e, sign);
                        x.add(4, 3, 4);
                        x.setTerm(4, 0, more + (e == 0 ? sign : 0));
                        BigInteger due = BigInteger.valueOf(factor).pow(e).multiply(BigInteger.valueOf(sign)).add(BigInteger.valueOf(more));
                        told("30: " + due, x, due.signum(), due + "/1", y -> y.value(4, factor, 1));
                        BigInteger bottom = BigInteger.valueOf(factor).pow(e);
                        told("30: 1/" + bottom, x, sign, sign + "/" + bottom, y -> y.value(3, 1, factor));
                    }
                }
            }
        }
        PolyRegisters x = with("x^9", "-x^9", "x^8", "x^8 - 1", "-x^8 + 1", "-x^9 - 1");
        long[] lows = {Long.MIN_VALUE, Long.MIN_VALUE, 0, -1, 1, Long.MAX_VALUE};
        for (int i = 0; i < 6; i++) {
            int a = i;
            x.value(a, i == 2 || i == 3 || i == 4 ? 256 : 128, 1);
            Check.due("30: low of 2^63 or 2^64, " + a, lows[a], () -> x.low(false));
            Check.due("30: its bottom", 1L, () -> x.low(true));
        }
    }

    // ---- Section 4

    private static final int[][] ROOTS = {{-7, 2}, {-3, 1}, {-1, 3}, {0, 1}, {1, 1000}, {1, 2}, {501, 1000}, {2, 3}, {1, 1}, {1000, 999}, {5, 4}, {30, 7}};

    /** Roots that are known: "taken once each, and numbered from 0 in ascending order". */
    private static void knownRoots() {
        for (int set = 1; set < 1 << 12; set += 11) {
            if (Integer.bitCount(set) > 5) {
                continue;
            }
            PolyRegisters x = with("1");
            int count = 0;
            for (int i = 0; i < 12; i++) {
                if ((set >> i & 1) != 0) {
                    x.subtract(1, 1, 1);
                    x.setTerm(1, 1, ROOTS[i][1]);
                    x.setTerm(1, 0, -ROOTS[i][0]);
                    x.multiply(0, 0, 1);
                    if (i % 3 == 0 && count < 2) {
                        x.multiply(0, 0, 1);
                    }
                    count++;
                }
            }
            sameRoots(x, set, count);
        }
    }

    private static void sameRoots(PolyRegisters x, int set, int count) {
        String what = " of the set " + set;
        Check.due("31: real roots" + what, count, () -> x.realRoots(0));
        Check.due("36: fractions" + what, count, () -> x.fractionRoots(0));
        Check.due("32: all" + what, count, () -> x.rootsBetween(0, -1000, 1, 1000, 1));
        int number = 0;
        for (int i = 0; i < 12; i++) {
            if ((set >> i & 1) != 0) {
                int[] r = ROOTS[i];
                int root = number++;
                int bits = (set + 5 * i) % 21;
                long floor = Math.floorDiv((long) r[0] << bits, (long) r[1]);
                told("35: root " + root + what + ", " + bits + " bits", x, Long.signum(floor), floor + "/1", y -> y.closeIn(0, root, bits));
                told("37: root " + root + what, x, Integer.signum(r[0]), r[0] + "/" + r[1], y -> y.fractionRoot(0, root));
                Check.due("32: a root" + what, Check.STATE, () -> x.rootsBetween(0, -999, 1, r[0], r[1]));
                Check.due("32: a root first" + what, Check.STATE, () -> x.rootsBetween(0, r[0], r[1], 999, 1));
                int behind = count - number;
                if (i % 3 != 0) {
                    Check.due("34: behind root " + root + what, behind, () -> x.changes(0, r[0], r[1]) - x.changes(0, 1000, 1));
                }
            }
        }
        Check.due("35: no more" + what, Check.INDEX, () -> x.closeIn(0, count, 0));
        Check.due("37: no more" + what, Check.INDEX, () -> x.fractionRoot(0, count));
        Check.due("35: none before" + what, Check.INDEX, () -> x.closeIn(0, -1, 0));
        rootsBeside(x, set, what);
    }

    private static boolean isLess(int[] a, int[] b) {
        return a[0] * b[1] < b[0] * a[1];
    }

    /** "Greater than the first and less than the second fraction": fractions between and just beside the roots. */
    private static void rootsBeside(PolyRegisters x, int set, String what) {
        int[][] beside = {{-1000, 1}, {-1000, 285}, {-7, 3}, {-334, 1000}, {-333, 1000}, {-1, 1000}, {1, 999}, {499, 1000}, {999, 1000},
            {667, 1000}, {1000, 999}, {1, 1000}, {1, 2}, {30, 7}, {31, 7}};
        for (int i = 0; i < beside.length; i++) {
            for (int j = 0; j < beside.length; j += 2) {
                int[] f = beside[i];
                int[] g = beside[j];
                String due = isLess(f, g) ? "" + countOf(set, f, g) : Check.ARGUMENT;
                Check.due("32: " + f[0] + "/" + f[1] + " to " + g[0] + "/" + g[1] + what, due.equals("-1") ? Check.STATE : due,
                    () -> x.rootsBetween(0, f[0], f[1], g[0], g[1]));
            }
        }
    }

    /** How many roots of the set are between; -1 if one of the ends is a root. */
    private static int countOf(int set, int[] f, int[] g) {
        int count = 0;
        for (int i = 0; i < 12; i++) {
            if ((set >> i & 1) != 0) {
                boolean isAbove = isLess(f, ROOTS[i]);
                boolean isBelow = isLess(ROOTS[i], g);
                if (!isAbove && !isLess(ROOTS[i], f) || !isBelow && !isLess(g, ROOTS[i])) {
                    return -1;
                }
                count += isAbove && isBelow ? 1 : 0;
            }
        }
        return count;
    }

    /** "The greatest whole number that is not greater than a real root times 2 to a power", for all powers. */
    private static void squareRoots() {
        int[] squares = {2, 3, 5, 6, 7, 8, 10, 15, 17, 99, 101, 1000, 999999};
        for (int square : squares) {
            PolyRegisters x = null;
            for (int bits = 0; bits <= 20; bits++) {
                x = new PolyRegisters();
                x.setTerm(0, 0, -square);
                int power = bits;
                long floor = BigInteger.valueOf(square).shiftLeft(2 * bits).sqrt().longValue();
                told("35: root of " + square + ", " + bits + " bits", x, 1, floor + "/1", y -> y.closeIn(0, 1, power));
                told("35: the other root of " + square, x, -1, -floor - 1 + "/1", y -> y.closeIn(0, 0, power));
            }
            PolyRegisters last = x;
            Check.due("35: bits 21", Check.ARGUMENT, () -> last.closeIn(0, 0, 21));
            Check.due("35: bits -1", Check.ARGUMENT, () -> last.closeIn(0, 0, -1));
            Check.due("36: no fraction", 0, () -> last.fractionRoots(0));
            Check.due("37: no fraction", Check.INDEX, () -> last.fractionRoot(0, 0));
        }
        int[][] near = {{1, 1}, {3, 2}, {7, 5}, {17, 12}, {41, 29}, {99, 70}, {239, 169}, {577, 408}};
        PolyRegisters x = new PolyRegisters();
        for (int i = 0; i < near.length; i++) {
            int[] f = near[i];
            boolean isBelow = i % 2 == 0;
            Check.due("32: from " + f[0] + "/" + f[1], isBelow ? 1 : 0, () -> x.rootsBetween(0, f[0], f[1], 2, 1));
            Check.due("32: to " + f[0] + "/" + f[1], isBelow ? 0 : 1, () -> x.rootsBetween(0, 0, 1, f[0], f[1]));
            Check.due("32: from -" + f[0] + "/" + f[1], isBelow ? 0 : 1, () -> x.rootsBetween(0, -f[0], f[1], 0, 1));
            Check.due("32: to -" + f[0] + "/" + f[1], isBelow ? 1 : 0, () -> x.rootsBetween(0, -2, 1, -f[0], f[1]));
            Check.due("34: at " + f[0] + "/" + f[1], isBelow ? 1 : 0, () -> x.changes(0, f[0], f[1]));
            Check.due("34: at -" + f[0] + "/" + f[1], isBelow ? 1 : 2, () -> x.changes(0, -f[0], f[1]));
        }
    }

    /** Some 10^-198 beside a whole number or a half: nothing but its side may count. */
    private static void rootsNearWholeNumbers() {
        String[] texts = {"x^12 - " + NINES + "*x^11 + 1", "x^12 - " + NINES + "*x^11 - 1", "x^12 + " + NINES + "*x^11 + 1",
            "x^12 + " + NINES + "*x^11 - 1", "2*x^12 - " + NINES + "*x^11 + 1", "2*x^12 - " + NINES + "*x^11 - 1"};
        int[] roots = {1, 1, 0, 0, 1, 1};
        BigInteger great = new BigInteger(NINES);
        for (int i = 0; i < texts.length; i++) {
            PolyRegisters x = with(texts[i]);
            int root = roots[i];
            boolean isBelow = i == 0 || i == 3 || i == 4;
            BigInteger whole = i == 2 || i == 3 ? great.negate() : great;
            Check.due("31: " + texts[i], 2, () -> x.realRoots(0));
            Check.due("36: " + texts[i], 0, () -> x.fractionRoots(0));
            Check.due("37: " + texts[i], Check.INDEX, () -> x.fractionRoot(0, 0));
            Check.due("35: no more of " + texts[i], Check.INDEX, () -> x.closeIn(0, 2, 0));
            for (int bits = i < 4 ? 0 : 1; bits <= 20; bits++) {
                int power = bits;
                BigInteger floor = whole.shiftLeft(i < 4 ? bits : bits - 1).subtract(isBelow ? BigInteger.ONE : BigInteger.ZERO);
                told("35: " + texts[i], with(texts[i]), floor.signum(), floor + "/1", y -> y.closeIn(0, root, power));
            }
        }
    }

    private static void manyRoots() {
        PolyRegisters x = with("x*(x-1)*(x-2)*(x-3)*(x-4)*(x-5)*(x-6)*(x-7)*(x-8)*(x-9)*(x-10)*(x-11)",
            "2048*x^12 - 6144*x^10 + 6912*x^8 - 3584*x^6 + 840*x^4 - 72*x^2 + 1");
        Check.due("31: twelve roots", 12, () -> x.realRoots(0));
        Check.due("31: twelve others", 12, () -> x.realRoots(1));
        Check.due("36: twelve fractions", 12, () -> x.fractionRoots(0));
        Check.due("36: no fractions", 0, () -> x.fractionRoots(1));
        Check.due("33: a row of all degrees", 13, () -> x.sturmLength(0));
        Check.due("34: all changes", 12, () -> x.changes(0, -1, 1));
        Check.due("34: no changes", 0, () -> x.changes(0, 12, 1));
        for (int i = 0; i < 12; i++) {
            int root = i;
            told("35: whole root", x, i == 0 ? 0 : 1, (i << i) + "/1", y -> y.closeIn(0, root, root));
            told("37: whole root", x, i == 0 ? 0 : 1, i + "/1", y -> y.fractionRoot(0, root));
            long floor = (long) Math.floor(Math.cos((23 - 2 * i) * Math.PI / 24) * (1 << 20));
            told("35: root of Chebyshev's", x, Long.signum(floor), floor + "/1", y -> y.closeIn(1, root, 20));
        }
        for (int root : new int[] {-1, 12, 13, Integer.MAX_VALUE, Integer.MIN_VALUE}) {
            Check.due("35: no root " + root, Check.INDEX, () -> x.closeIn(0, root, 0));
            Check.due("37: no root " + root, Check.INDEX, () -> x.fractionRoot(0, root));
        }
        String[] texts = {"1", "-5", "x^2 + 1", "x^12 + 1", "x^12", "-x^11", "x^12 - 1", "x^11 - 1", "(x-1)^12", "-x^2 + 1", NINES + "*x - 1", "x - " + NINES};
        int[] counts = {0, 0, 0, 0, 1, 1, 2, 1, 1, 2, 1, 1};
        for (int i = 0; i < texts.length; i++) {
            PolyRegisters z = with(texts[i]);
            int count = counts[i];
            Check.due("31: " + texts[i], count, () -> z.realRoots(0));
            Check.due("36: " + texts[i], count, () -> z.fractionRoots(0));
            for (int root = 0; root < 3; root++) {
                int r = root;
                Check.due("35: root " + r + " of " + texts[i], r >= count, () -> Check.answer(() -> z.closeIn(0, r, 0)).equals(Check.INDEX));
                Check.due("37: root " + r + " of " + texts[i], r >= count, () -> Check.answer(() -> z.fractionRoot(0, r)).equals(Check.INDEX));
            }
        }
    }

    /** "The polynomial; its derivative, if this is not 0; then, as long as the remainder is not 0, this remainder times -1." */
    private static void rowsOfSturm() {
        String[] texts = {"1", "-7", NINES, "x", "-2*x + 1", "x^2", "x^12", "(x-1)^12", "x^2 - 1", "x^2 + 1", "-x^2 + 2", "x^12 - 1", "x^12 + 1",
            "x^2 - x", "x^3 - x", "x^12 - x", "(x^2 - 1)^2", "(x^3 - x)^3", "x^4 + x^3"};
        int[] lengths = {1, 1, 1, 2, 2, 2, 2, 2, 3, 3, 3, 3, 3, 3, 4, 4, 3, 4, 3};
        for (int i = 0; i < texts.length; i++) {
            PolyRegisters x = with(texts[i]);
            Check.due("33: " + texts[i], lengths[i], () -> x.sturmLength(0));
        }
        // The changes at -2, -1, 0, 1 and 2.
        String[] rows = {"1", "x", "-x", "x^2", "x^3", "x^2 - 1", "-x^2 + 1", "x^2 + 1", "x^3 - x", "x^4 - 1", "(x-1)^2", "x^2 - 2"};
        int[][] changes = {{0, 0, 0, 0, 0}, {1, 1, 0, 0, 0}, {1, 1, 0, 0, 0}, {1, 1, 0, 0, 0}, {1, 1, 0, 0, 0}, {2, 1, 1, 0, 0}, {2, 1, 1, 0, 0},
            {1, 1, 1, 1, 1}, {3, 2, 1, 0, 0}, {2, 1, 1, 0, 0}, {1, 1, 1, 0, 0}, {2, 1, 1, 1, 0}};
        for (int i = 0; i < rows.length; i++) {
            PolyRegisters x = with(rows[i]);
            for (int top = -2; top <= 2; top++) {
                int t = top;
                Check.due("34: " + rows[i] + " at " + top, changes[i][top + 2], () -> x.changes(0, t, 1));
                Check.due("34: " + rows[i] + " at " + 500 * top + "/500", changes[i][top + 2], () -> x.changes(0, t * 500, 500));
            }
        }
    }

    // ---- Section 5

    /** "For a prime p from 2 to 97": all of them, against values that are taken one by one. */
    private static void primes() {
        long[][] all = {{}, {5}, {97}, {-2, 0, 1}, {1, 0, 1}, {0, -1, 0, 1}, {1, -5, 6}, {-999_999_999_999_999_999L, 3, 999_999_999_999_999_998L},
            {96, 95, -94, 0, 0, 0, 0, 0, 0, 0, 0, 0, -1}, {2, 0, 0, 0, 0, 0, 0, 0, 0, 0, 0, 3, 4}};
        int count = 0;
        for (int p = 2; p <= 97; p++) {
            if (!BigInteger.valueOf(p).isProbablePrime(30)) {
                continue;
            }
            count++;
            for (long[] c : all) {
                PolyRegisters x = with("0");
                for (int e = 0; e < c.length; e++) {
                    x.setTerm(0, e, c[e]);
                }
                byPrime(x, c, p);
            }
        }
        int primes = count;
        Check.due("12: primes", 25, () -> primes);
    }

    private static void byPrime(PolyRegisters x, long[] c, int p) {
        int count = 0;
        int least = -1;
        BigInteger prime = BigInteger.valueOf(p);
        for (int place = 0; place < p; place++) {
            BigInteger sum = BigInteger.ZERO;
            for (int e = c.length - 1; e >= 0; e--) {
                sum = sum.multiply(BigInteger.valueOf(place)).add(BigInteger.valueOf(c[e]));
            }
            if (sum.mod(prime).signum() == 0) {
                least = count == 0 ? place : least;
                count++;
            }
        }
        Check.due("38: by " + p, count, () -> x.rootsBy(0, p));
        Check.due("39: by " + p, count == 0 ? Check.NO_ELEMENT : "" + least, () -> x.rootBy(0, p));
        int degree = -1;
        for (int e = 0; e < c.length; e++) {
            degree = Math.floorMod(c[e], p) != 0 ? e : degree;
        }
        Check.due("12: degree by " + p, degree, () -> x.residue(3, 0, p));
        for (int e = 0; e < c.length; e++) {
            int exponent = e;
            Check.due("12: by " + p, Math.floorMod(c[e], p) == 0 ? 0 : 1, () -> x.coefficient(3, exponent));
            Check.due("12: by " + p + ", x^" + e, (long) Math.floorMod(c[e], p), () -> x.low(false));
        }
        Check.due("38: of the residue by " + p, count, () -> x.rootsBy(3, p));
        Check.due("12: again by " + p, degree, () -> x.residue(0, 3, p));
        Check.due("12: stays as it is", true, () -> x.areSame(0, 3));
    }

    // ---- Section 6

    /** "Up to 6 points, each with a place x and a value y, no two with the same place." */
    private static void pointBounds() {
        for (int place = -12; place <= 12; place++) {
            PolyRegisters x = new PolyRegisters();
            int p = place;
            boolean isThere = Math.abs(place) <= 9;
            Check.due("15: place " + p, isThere ? "1" : Check.ARGUMENT, () -> x.addPoint(p, 5));
            Check.due("15: place " + p + " again", isThere ? Check.STATE : Check.ARGUMENT, () -> x.addPoint(p, 5));
            Check.due("15: place " + p + ", other value", isThere ? Check.STATE : Check.ARGUMENT, () -> x.addPoint(p, 6));
            Check.due("40: points", isThere ? 1 : 0, x::pointCount);
        }
        for (int value : new int[] {-1001, -1000, -999, -998, -1, 0, 1, 998, 999, 1000, 1001}) {
            PolyRegisters x = new PolyRegisters();
            boolean isThere = Math.abs(value) <= 999;
            Check.due("15: value " + value, isThere ? "1" : Check.ARGUMENT, () -> x.addPoint(-9, value));
            Check.due("17: value " + value, 1L, () -> x.interpolate(3));
            Check.due("17: value " + value, isThere ? "" + value : "0", () -> Check.written(x, 3));
        }
        PolyRegisters x = new PolyRegisters();
        for (int round = 0; round < 3; round++) {
            for (int i = 0; i < 6; i++) {
                int place = 9 - 3 * i;
                Check.due("15: point " + i, i + 1, () -> x.addPoint(place, 100));
                Check.due("40: points", i + 1, x::pointCount);
            }
            Check.due("15: a seventh", Check.STATE, () -> x.addPoint(8, 0));
            Check.due("15: a seventh at the same place", Check.STATE, () -> x.addPoint(9, 0));
            Check.due("15: a seventh out of range", Check.ARGUMENT, () -> x.addPoint(8, 1000));
            Check.due("40: still 6", 6, x::pointCount);
            Check.due("17: all the same", 1L, () -> x.interpolate(3));
            Check.due("17: all the same", "100", () -> Check.written(x, 3));
            Check.due("16: clearPoints", 6, x::clearPoints);
            Check.due("16: none left", 0, x::clearPoints);
            Check.due("40: none", 0, x::pointCount);
            Check.due("17: without points", 1L, () -> x.interpolate(3));
            Check.due("17: without points", "0", () -> Check.written(x, 3));
        }
    }

    /** The polynomial goes through all points, has a lesser degree than there are points, and no lesser number does. */
    private static void manyPoints() {
        for (int round = 0; round < 1200; round++) {
            PolyRegisters x = new PolyRegisters();
            int count = 1 + round % 6;
            int[] places = new int[count];
            int[] values = new int[count];
            for (int i = 0; i < count; i++) {
                places[i] = (round * 7 + i * (1 + round % 18) + i * i * (round % 2)) % 19 - 9;
                values[i] = round % 5 == 0 ? (round % 3 - 1) * (i + 1) : (round * 31 + i * i * 577 + i * 83) % 1999 - 999;
            }
            boolean isNew = true;
            for (int i = 0; i < count; i++) {
                for (int j = 0; j < i; j++) {
                    isNew = isNew && places[i] != places[j];
                }
            }
            for (int i = 0; i < count && isNew; i++) {
                x.addPoint(places[i], values[i]);
            }
            if (isNew) {
                through(x, places, values);
            }
        }
        PolyRegisters x = new PolyRegisters();
        int[] far = {-9, -8, -7, -6, 5, 9};
        int[] high = {999, -999, 999, -999, -999, 998};
        for (int i = 0; i < 6; i++) {
            x.addPoint(far[i], high[i]);
        }
        through(x, far, high);
    }

    private static void through(PolyRegisters x, int[] places, int[] values) {
        long multiple = x.interpolate(3);
        Check.due("17: above 0", true, () -> multiple > 0);
        Check.due("17: degree", true, () -> x.degree(3) < places.length);
        for (int i = 0; i < places.length; i++) {
            int k = i;
            told("17: value at " + places[i], x, Integer.signum(values[i]), multiple * values[i] + "/1", y -> y.value(3, places[k], 1));
        }
        x.content(3);
        BigInteger shared = BigInteger.valueOf(x.low(false)).gcd(BigInteger.valueOf(multiple));
        Check.due("17: the least number", 1L, shared::longValue);
        Check.due("40: the points stay", places.length, x::pointCount);
    }

    // ---- Promises 19 to 22, and 46 to 48

    private static void shapes() {
        for (int set = 0; set < 1 << 13; set += 5) {
            PolyRegisters x = new PolyRegisters();
            for (int e = 0; e <= 12; e++) {
                if ((set >> e & 1) != 0) {
                    x.setTerm(4, e, e % 2 == 0 ? e + 1 : -e - 1);
                }
            }
            int count = Integer.bitCount(set);
            Check.due("19: degree", 31 - Integer.numberOfLeadingZeros(set), () -> x.degree(4));
            Check.due("20: terms", count, () -> x.terms(4));
            int term = 0;
            for (int e = 12; e >= 0; e--) {
                int exponent = e;
                boolean isThere = (set >> e & 1) != 0;
                if (isThere) {
                    int number = term++;
                    Check.due("21: term " + number, e, () -> x.exponent(4, number));
                }
                long c = isThere ? e % 2 == 0 ? e + 1 : -e - 1 : 0;
                told("22: x^" + e, x, Long.signum(c), c + "/1", y -> y.coefficient(4, exponent));
            }
            Check.due("21: no more terms", Check.INDEX, () -> x.exponent(4, count));
            Check.due("21: no term -1", Check.INDEX, () -> x.exponent(4, -1));
        }
    }

    private static void measures() {
        PolyRegisters x = with("0", "0", "0");
        int terms = 0;
        for (int a = 0; a < 6; a++) {
            for (int e = 0; e <= 12; e++) {
                double mean = terms / 6.0;
                float share = (a + (e > 0 ? 1 : 0)) / 6.0f;
                Check.due("46: mean of " + terms, mean, x::meanTerms);
                Check.due("47: share of " + terms, share, x::usedShare);
                x.setTerm(a, 12 - e, terms % 2 == 0 ? -1 : 7);
                terms++;
                Check.due("48: errors", 0, x::errors);
            }
        }
        Check.due("46: full", 13.0, x::meanTerms);
        Check.due("47: full", 1.0f, x::usedShare);
    }
}
