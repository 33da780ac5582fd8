import java.util.concurrent.Callable;

/** All polynomials with small coefficients and a small degree, compared with the model. */
public final class SmallTest {
    private static final int[][] FRACTIONS = {{-1000, 1}, {-3, 1}, {-2, 1}, {-3, 2}, {-1, 1}, {-2, 3}, {-1, 2}, {-1, 1000}, {0, 1},
        {0, 1000}, {1, 3}, {2, 4}, {1, 1}, {5, 4}, {1000, 500}, {7, 2}, {1000, 1}, {999, 1000}};
    private static PolyRegisters mine;
    private static Model model;

    public static void main(String[] args) {
        for (int i = 0; i < 3125; i++) {
            alone(i);
        }
        for (int a = 0; a < 125; a++) {
            for (int b = 0; b < 125; b++) {
                pair(a, b);
            }
        }
        Check.end();
    }

    private static void begin() {
        mine = new PolyRegisters();
        model = new Model();
    }

    private static void same(String what, Callable<?> got, Callable<?> want) {
        Check.due(what, Check.answer(want), got);
    }

    private static void sameTold(String what) {
        same(what + ": top", () -> mine.low(false), () -> model.low(false));
        same(what + ": bottom", () -> mine.low(true), () -> model.low(true));
        same(what + ": digits of the top", () -> mine.digits(false), () -> model.digits(false));
        same(what + ": digits of the bottom", () -> mine.digits(true), () -> model.digits(true));
    }

    /** The digits of the number by 5, from -2 to 2 each, are the coefficients. */
    private static void set(int to, int number, int count) {
        int rest = number;
        for (int e = 0; e < count; e++) {
            int c = rest % 5 - 2;
            rest /= 5;
            mine.setTerm(to, e, c);
            model.setTerm(to, e, c);
        }
    }

    private static void sameRow(String what, int a) {
        Check.due(what + ": length", model.write(a), () -> mine.write(a));
        Check.due(what + ": text", model.text() + Check.INDEX, () -> Twins.writtenNow(mine));
    }

    private static void alone(int number) {
        begin();
        mine.subtract(0, 0, 0);
        model.subtract(0, 0, 0);
        set(0, number, 5);
        model.write(0);
        String text = model.text();
        sameRow(text, 0);
        same(text + " degree", () -> mine.degree(0), () -> model.degree(0));
        same(text + " terms", () -> mine.terms(0), () -> model.terms(0));
        for (int i = -1; i <= 5; i++) {
            int term = i;
            same(text + " exponent " + i, () -> mine.exponent(0, term), () -> model.exponent(0, term));
        }
        same(text + " content", () -> mine.content(0), () -> model.content(0));
        sameTold(text + " content");
        same(text + " realRoots", () -> mine.realRoots(0), () -> model.realRoots(0));
        same(text + " sturmLength", () -> mine.sturmLength(0), () -> model.sturmLength(0));
        same(text + " fractionRoots", () -> mine.fractionRoots(0), () -> model.fractionRoots(0));
        fractions(text);
        roots(text, number);
        same(text + " derive", () -> mine.derive(3, 0), () -> model.derive(3, 0));
        sameRow(text + " derive", 3);
        same(text + " primitive", () -> mine.primitive(3, 0), () -> model.primitive(3, 0));
        sameRow(text + " primitive", 3);
        same(text + " simple", () -> mine.simple(3, 0), () -> model.simple(3, 0));
        sameRow(text + " simple", 3);
        for (int p : new int[] {2, 3, 5}) {
            same(text + " rootsBy " + p, () -> mine.rootsBy(0, p), () -> model.rootsBy(0, p));
            same(text + " rootBy " + p, () -> mine.rootBy(0, p), () -> model.rootBy(0, p));
        }
        same(text + " meanTerms", () -> mine.meanTerms(), () -> model.meanTerms());
        same(text + " usedShare", () -> mine.usedShare(), () -> model.usedShare());
        same(text + " errors", () -> mine.errors(), () -> 0);
    }

    private static void fractions(String text) {
        for (int[] f : FRACTIONS) {
            String at = text + " at " + f[0] + "/" + f[1];
            same(at + ": changes", () -> mine.changes(0, f[0], f[1]), () -> model.changes(0, f[0], f[1]));
            same(at + ": value", () -> mine.value(0, f[0], f[1]), () -> model.value(0, f[0], f[1]));
            sameTold(at + ": value");
        }
        for (int i = 0; i < FRACTIONS.length; i++) {
            int[] f = FRACTIONS[i];
            int[] g = FRACTIONS[(i * 5 + 3) % FRACTIONS.length];
            same(text + " rootsBetween " + f[0] + "/" + f[1] + " and " + g[0] + "/" + g[1],
                () -> mine.rootsBetween(0, f[0], f[1], g[0], g[1]), () -> model.rootsBetween(0, f[0], f[1], g[0], g[1]));
        }
    }

    private static void roots(String text, int number) {
        for (int i = 0; i < 5; i++) {
            int root = i;
            int bits = (number + 7 * i) % 21;
            same(text + " closeIn " + root + ", " + bits, () -> mine.closeIn(0, root, bits), () -> model.closeIn(0, root, bits));
            sameTold(text + " closeIn");
            same(text + " fractionRoot " + root, () -> mine.fractionRoot(0, root), () -> model.fractionRoot(0, root));
            sameTold(text + " fractionRoot");
        }
    }

    private static void pair(int a, int b) {
        begin();
        set(0, a, 3);
        mine.setTerm(1, 3, 0);
        model.setTerm(1, 3, 0);
        set(1, b, 3);
        model.write(0);
        String text = model.text();
        model.write(1);
        String both = text + ", " + model.text();
        same(both + " divides", () -> mine.divides(0, 1), () -> model.divides(0, 1));
        same(both + " areSame", () -> mine.areSame(0, 1), () -> model.areSame(0, 1));
        same(both + " agreements", () -> mine.agreements(0, 1), () -> model.agreements(0, 1));
        same(both + " add", () -> mine.add(3, 0, 1), () -> model.add(3, 0, 1));
        sameRow(both + " add", 3);
        same(both + " subtract", () -> mine.subtract(3, 0, 1), () -> model.subtract(3, 0, 1));
        sameRow(both + " subtract", 3);
        same(both + " multiply", () -> mine.multiply(3, 0, 1), () -> model.multiply(3, 0, 1));
        sameRow(both + " multiply", 3);
        same(both + " divides its product", () -> mine.divides(0, 3), () -> model.divides(0, 3));
        same(both + " substitute", () -> mine.substitute(3, 0, 1), () -> model.substitute(3, 0, 1));
        sameRow(both + " substitute", 3);
        same(both + " gcd", () -> mine.gcd(3, 0, 1), () -> model.gcd(3, 0, 1));
        sameRow(both + " gcd", 3);
        same(both + " divide", () -> mine.divide(3, 4, 0, 1), () -> model.divide(3, 4, 0, 1));
        sameRow(both + " quotient", 3);
        sameRow(both + " remainder", 4);
    }
}
