import java.math.BigInteger;
import java.util.ArrayList;
import java.util.List;
import java.util.NoSuchElementException;
import java.util.TreeSet;

/** The document once more, with the Java library's whole numbers and without a thought for time or room. */
final class Model {
    static final BigInteger ZERO = BigInteger.ZERO;
    static final BigInteger ONE = BigInteger.ONE;
    private static final BigInteger BOUND = BigInteger.TEN.pow(18);

    private BigInteger[][] rows = new BigInteger[6][];
    private List<int[]> points = new ArrayList<>();
    private final List<Object[]> earlier = new ArrayList<>();
    private final StringBuilder buffer = new StringBuilder();
    private String written = "";
    private int errorAt = -1;
    BigInteger toldTop = ZERO;
    BigInteger toldBottom = ONE;

    Model() {
        for (int i = 0; i < 6; i++) {
            rows[i] = new BigInteger[0];
        }
        rows[0] = poly(-2, 0, 1);
        rows[1] = poly(0, -1, 0, 1);
        rows[2] = poly(1, -5, 6);
    }

    // ---- Polynomials: coefficients by ascending exponents, the last one not 0

    static BigInteger[] poly(long... coefficients) {
        BigInteger[] p = new BigInteger[coefficients.length];
        for (int i = 0; i < p.length; i++) {
            p[i] = BigInteger.valueOf(coefficients[i]);
        }
        return trim(p);
    }

    static BigInteger[] trim(BigInteger[] p) {
        int n = p.length;
        while (n > 0 && p[n - 1].signum() == 0) {
            n--;
        }
        BigInteger[] q = new BigInteger[n];
        System.arraycopy(p, 0, q, 0, n);
        return q;
    }

    static BigInteger at(BigInteger[] p, int i) {
        return i >= 0 && i < p.length ? p[i] : ZERO;
    }

    static BigInteger lead(BigInteger[] p) {
        return at(p, p.length - 1);
    }

    static BigInteger[] plus(BigInteger[] a, BigInteger[] b, int factor) {
        BigInteger[] c = new BigInteger[Math.max(a.length, b.length)];
        for (int i = 0; i < c.length; i++) {
            c[i] = at(a, i).add(at(b, i).multiply(BigInteger.valueOf(factor)));
        }
        return trim(c);
    }

    static BigInteger[] times(BigInteger[] a, BigInteger[] b) {
        BigInteger[] c = new BigInteger[a.length + b.length];
        java.util.Arrays.fill(c, ZERO);
        for (int i = 0; i < a.length; i++) {
            for (int j = 0; j < b.length; j++) {
                c[i + j] = c[i + j].add(a[i].multiply(b[j]));
            }
        }
        return trim(c);
    }

    static BigInteger[] times(BigInteger[] a, BigInteger b) {
        return times(a, trim(new BigInteger[] {b}));
    }

    static BigInteger[] derived(BigInteger[] a) {
        BigInteger[] d = new BigInteger[Math.max(a.length - 1, 0)];
        for (int i = 1; i < a.length; i++) {
            d[i - 1] = a[i].multiply(BigInteger.valueOf(i));
        }
        return trim(d);
    }

    static BigInteger contentOf(BigInteger[] a) {
        BigInteger g = ZERO;
        for (BigInteger c : a) {
            g = g.gcd(c);
        }
        return g;
    }

    static BigInteger[] over(BigInteger[] a, BigInteger d) {
        BigInteger[] q = new BigInteger[a.length];
        for (int i = 0; i < a.length; i++) {
            q[i] = a[i].divide(d);
        }
        return q;
    }

    static BigInteger[] primitiveOf(BigInteger[] a) {
        if (a.length == 0) {
            return a;
        }
        BigInteger c = contentOf(a);
        return over(a, lead(a).signum() < 0 ? c.negate() : c);
    }

    /** Quotient and remainder of lead(b)^n * a by b. */
    static BigInteger[][] pseudo(BigInteger[] a, BigInteger[] b) {
        int n = Math.max(a.length - b.length + 1, 0);
        BigInteger[] r = times(a, lead(b).pow(n));
        BigInteger[] q = new BigInteger[n];
        for (int k = n - 1; k >= 0; k--) {
            BigInteger[] d = at(r, b.length - 1 + k).divideAndRemainder(lead(b));
            if (d[1].signum() != 0) {
                throw new AssertionError();
            }
            q[k] = d[0];
            BigInteger[] shifted = new BigInteger[k + 1];
            java.util.Arrays.fill(shifted, ZERO);
            shifted[k] = d[0];
            r = plus(r, times(b, trim(shifted)), -1);
        }
        return new BigInteger[][] {trim(q), r};
    }

    static BigInteger[] gcdOf(BigInteger[] a, BigInteger[] b) {
        BigInteger c = contentOf(a).gcd(contentOf(b));
        BigInteger[] u = primitiveOf(a);
        BigInteger[] v = primitiveOf(b);
        while (v.length > 0) {
            BigInteger[] r = primitiveOf(pseudo(u, v)[1]);
            u = v;
            v = r;
        }
        return times(u, c);
    }

    /** The quotient if b divides a with whole coefficients; null if not. */
    static BigInteger[] exact(BigInteger[] a, BigInteger[] b) {
        BigInteger[] r = a;
        BigInteger[] q = new BigInteger[Math.max(a.length - b.length + 1, 0)];
        java.util.Arrays.fill(q, ZERO);
        while (r.length >= b.length && r.length > 0) {
            BigInteger[] d = lead(r).divideAndRemainder(lead(b));
            if (d[1].signum() != 0) {
                return null;
            }
            BigInteger[] shifted = new BigInteger[r.length - b.length + 1];
            java.util.Arrays.fill(shifted, ZERO);
            shifted[shifted.length - 1] = d[0];
            q[shifted.length - 1] = d[0];
            r = plus(r, times(b, shifted), -1);
        }
        return r.length == 0 ? trim(q) : null;
    }

    static BigInteger[] simpleOf(BigInteger[] a) {
        BigInteger[] p = primitiveOf(a);
        return primitiveOf(exact(p, gcdOf(p, derived(p))));
    }

    static List<BigInteger[]> sturm(BigInteger[] a) {
        List<BigInteger[]> row = new ArrayList<>();
        row.add(a);
        BigInteger[] next = derived(a);
        while (next.length > 0) {
            row.add(next);
            BigInteger[] before = row.get(row.size() - 2);
            // The square of the leading coefficient keeps the sign of the remainder.
            BigInteger[] r = pseudo(times(before, lead(next).pow(before.length - next.length + 1)), next)[1];
            next = r.length == 0 ? r : over(times(r, ONE.negate()), contentOf(r));
        }
        return row;
    }

    /** The value times bottom to the power of the degree. */
    static BigInteger valueOf(BigInteger[] a, BigInteger top, BigInteger bottom) {
        BigInteger v = ZERO;
        for (int i = 0; i < a.length; i++) {
            v = v.add(a[i].multiply(top.pow(i)).multiply(bottom.pow(a.length - 1 - i)));
        }
        return v;
    }

    static int changesOf(List<BigInteger[]> row, BigInteger top, BigInteger bottom) {
        int before = 0;
        int count = 0;
        for (BigInteger[] p : row) {
            int s = valueOf(p, top, bottom).signum();
            if (s != 0) {
                count += before != 0 && s != before ? 1 : 0;
                before = s;
            }
        }
        return count;
    }

    /** Above the size of all roots. */
    static BigInteger rootBound(BigInteger[] a) {
        BigInteger sum = ONE;
        for (BigInteger c : a) {
            sum = sum.add(c.abs());
        }
        return sum;
    }

    static int rootCount(BigInteger[] a) {
        List<BigInteger[]> row = sturm(a);
        BigInteger b = rootBound(a);
        return changesOf(row, b.negate(), ONE) - changesOf(row, b, ONE);
    }

    /** The greatest whole number that is not above the root times the scale. */
    static BigInteger located(BigInteger[] a, int root, BigInteger scale) {
        BigInteger[] s = simpleOf(a);
        List<BigInteger[]> row = sturm(s);
        BigInteger bound = rootBound(s).multiply(scale);
        int far = changesOf(row, bound.negate(), scale);
        BigInteger low = bound.negate();
        BigInteger high = bound;
        // low is below or at the root, high is above it.
        while (high.subtract(low).compareTo(ONE) > 0) {
            BigInteger middle = low.add(high).shiftRight(1);
            boolean isRoot = valueOf(s, middle, scale).signum() == 0;
            int below = far - changesOf(row, middle, scale) - (isRoot ? 1 : 0);
            if (below <= root) {
                low = middle;
            } else {
                high = middle;
            }
        }
        return low;
    }

    /** All roots that are fractions, as top and bottom. */
    static List<BigInteger[]> fractionRootsOf(BigInteger[] a) {
        BigInteger[] s = simpleOf(a);
        BigInteger scale = lead(s);
        TreeSet<BigInteger> tops = new TreeSet<>();
        int count = rootCount(s);
        for (int i = 0; i < count; i++) {
            BigInteger top = located(s, i, scale);
            if (valueOf(s, top, scale).signum() == 0) {
                tops.add(top);
            }
        }
        List<BigInteger[]> found = new ArrayList<>();
        for (BigInteger top : tops) {
            BigInteger g = top.gcd(scale);
            found.add(new BigInteger[] {top.divide(g), scale.divide(g)});
        }
        return found;
    }

    // ---- The calls

    private BigInteger[] row(int a) {
        if (a < 0 || a > 5) {
            throw new IndexOutOfBoundsException();
        }
        return rows[a];
    }

    private static void fits(BigInteger[] p) {
        if (!isFitting(p)) {
            throw new IllegalStateException();
        }
    }

    private static boolean isFitting(BigInteger[] p) {
        boolean fits = p.length <= 13;
        for (BigInteger c : p) {
            fits &= c.abs().compareTo(BOUND) < 0;
        }
        return fits;
    }

    private static void need(boolean isRight) {
        if (!isRight) {
            throw new IllegalArgumentException();
        }
    }

    private static void needNotZero(BigInteger[] p) {
        if (p.length == 0) {
            throw new ArithmeticException();
        }
    }

    private void snapshot() {
        earlier.add(new Object[] {rows.clone(), new ArrayList<>(points)});
        if (earlier.size() > 8) {
            earlier.remove(0);
        }
    }

    private int keep(int to, BigInteger[] p) {
        fits(p);
        snapshot();
        rows[to] = p;
        return p.length - 1;
    }

    int add(int to, int a, int b) {
        row(to);
        return keep(to, plus(row(a), row(b), 1));
    }

    int subtract(int to, int a, int b) {
        row(to);
        return keep(to, plus(row(a), row(b), -1));
    }

    int multiply(int to, int a, int b) {
        row(to);
        return keep(to, times(row(a), row(b)));
    }

    int power(int to, int a, int exponent) {
        row(to);
        BigInteger[] base = row(a);
        need(exponent >= 0 && exponent <= 12);
        BigInteger[] p = poly(1);
        for (int i = 0; i < exponent; i++) {
            p = times(p, base);
        }
        return keep(to, p);
    }

    int derive(int to, int a) {
        row(to);
        return keep(to, derived(row(a)));
    }

    int substitute(int to, int a, int b) {
        row(to);
        BigInteger[] p = row(a);
        BigInteger[] in = row(b);
        BigInteger[] sum = poly();
        BigInteger[] power = poly(1);
        for (int i = 0; i < p.length; i++) {
            sum = plus(sum, times(power, p[i]), 1);
            power = times(power, in);
        }
        return keep(to, sum);
    }

    int divide(int quotient, int remainder, int a, int b) {
        row(quotient);
        row(remainder);
        BigInteger[] p = row(a);
        BigInteger[] by = row(b);
        need(quotient != remainder);
        needNotZero(by);
        BigInteger[][] both = pseudo(p, by);
        fits(both[1]);
        keep(quotient, both[0]);
        rows[remainder] = both[1];
        return Math.max(p.length - by.length + 1, 0);
    }

    int gcd(int to, int a, int b) {
        row(to);
        return keep(to, gcdOf(row(a), row(b)));
    }

    int primitive(int to, int a) {
        row(to);
        return keep(to, primitiveOf(row(a)));
    }

    int simple(int to, int a) {
        row(to);
        needNotZero(row(a));
        return keep(to, simpleOf(row(a)));
    }

    int residue(int to, int a, int prime) {
        row(to);
        BigInteger[] p = row(a).clone();
        need(isPrime(prime));
        for (int i = 0; i < p.length; i++) {
            p[i] = p[i].mod(BigInteger.valueOf(prime));
        }
        return keep(to, trim(p));
    }

    private static boolean isPrime(int p) {
        return p >= 2 && p <= 97 && BigInteger.valueOf(p).isProbablePrime(50);
    }

    int setTerm(int to, int exponent, long coefficient) {
        BigInteger[] p = java.util.Arrays.copyOf(row(to), 13);
        need(exponent >= 0 && exponent <= 12);
        for (int i = 0; i < 13; i++) {
            p[i] = p[i] == null ? ZERO : p[i];
        }
        p[exponent] = BigInteger.valueOf(coefficient);
        return keep(to, trim(p));
    }

    int read(int to) {
        row(to);
        ModelText text = new ModelText(buffer.toString());
        buffer.setLength(0);
        errorAt = text.error;
        need(text.error < 0);
        if (text.isTooGreat) {
            throw new IllegalStateException();
        }
        return keep(to, text.value);
    }

    int addPoint(int x, int y) {
        need(x >= -9 && x <= 9 && y >= -999 && y <= 999);
        for (int[] p : points) {
            if (p[0] == x) {
                throw new IllegalStateException();
            }
        }
        if (points.size() == 6) {
            throw new IllegalStateException();
        }
        snapshot();
        points.add(new int[] {x, y});
        return points.size();
    }

    int clearPoints() {
        snapshot();
        int n = points.size();
        points = new ArrayList<>();
        return n;
    }

    long interpolate(int to) {
        row(to);
        BigInteger all = ONE;
        for (int[] p : points) {
            for (int[] q : points) {
                all = p == q ? all : all.multiply(BigInteger.valueOf(p[0] - q[0]));
            }
        }
        BigInteger[] sum = poly();
        for (int[] p : points) {
            BigInteger[] term = times(poly(p[1]), all);
            for (int[] q : points) {
                if (p != q) {
                    term = over(times(term, poly(-q[0], 1)), BigInteger.valueOf(p[0] - q[0]));
                }
            }
            sum = plus(sum, term, 1);
        }
        BigInteger g = all.gcd(contentOf(sum));
        BigInteger multiple = all.abs().divide(g);
        keep(to, over(sum, all.signum() < 0 ? g.negate() : g));
        return multiple.longValueExact();
    }

    @SuppressWarnings("unchecked")
    int undo() {
        if (earlier.isEmpty()) {
            return -1;
        }
        Object[] last = earlier.remove(earlier.size() - 1);
        rows = (BigInteger[][]) last[0];
        points = (List<int[]>) last[1];
        return earlier.size();
    }

    int degree(int a) {
        return row(a).length - 1;
    }

    int terms(int a) {
        int n = 0;
        for (BigInteger c : row(a)) {
            n += c.signum() != 0 ? 1 : 0;
        }
        return n;
    }

    int exponent(int a, int term) {
        List<Integer> all = new ArrayList<>();
        for (int i = row(a).length - 1; i >= 0; i--) {
            if (rows[a][i].signum() != 0) {
                all.add(i);
            }
        }
        if (term < 0 || term >= all.size()) {
            throw new IndexOutOfBoundsException();
        }
        return all.get(term);
    }

    private int tell(BigInteger top, BigInteger bottom) {
        BigInteger g = top.gcd(bottom);
        toldTop = top.divide(g);
        toldBottom = bottom.divide(g);
        return top.signum();
    }

    int coefficient(int a, int exponent) {
        BigInteger[] p = row(a);
        need(exponent >= 0 && exponent <= 12);
        return tell(at(p, exponent), ONE);
    }

    /** The coefficient of a register that is there; tells nothing. */
    long term(int a, int exponent) {
        return at(rows[a], exponent).longValueExact();
    }

    int content(int a) {
        return tell(contentOf(row(a)), ONE);
    }

    private static void needFraction(int top, int bottom) {
        need(top >= -1000 && top <= 1000 && bottom >= 1 && bottom <= 1000);
    }

    int value(int a, int top, int bottom) {
        BigInteger[] p = row(a);
        needFraction(top, bottom);
        BigInteger b = BigInteger.valueOf(bottom);
        return tell(valueOf(p, BigInteger.valueOf(top), b), b.pow(Math.max(p.length - 1, 0)));
    }

    boolean divides(int a, int b) {
        BigInteger[] by = row(a);
        BigInteger[] p = row(b);
        return p.length == 0 || by.length > 0 && exact(p, by) != null;
    }

    boolean areSame(int a, int b) {
        return java.util.Arrays.equals(row(a), row(b));
    }

    int agreements(int a, int b) {
        BigInteger[] p = row(a);
        BigInteger[] q = row(b);
        int d = Math.max(0, Math.max(p.length, q.length) - 1);
        int n = 0;
        for (int i = 0; i <= d; i++) {
            BigInteger x = BigInteger.valueOf(i);
            n += valueOf(p, x, ONE).equals(valueOf(q, x, ONE)) ? 1 : 0;
        }
        return n;
    }

    int digits(boolean isBottom) {
        return (isBottom ? toldBottom : toldTop).abs().toString().length();
    }

    int digit(boolean isBottom, int place) {
        String s = (isBottom ? toldBottom : toldTop).abs().toString();
        if (place < 0 || place >= s.length()) {
            throw new IndexOutOfBoundsException();
        }
        return s.charAt(s.length() - 1 - place) - '0';
    }

    long low(boolean isBottom) {
        return (isBottom ? toldBottom : toldTop).longValue();
    }

    int realRoots(int a) {
        needNotZero(row(a));
        return rootCount(rows[a]);
    }

    int rootsBetween(int a, int top, int bottom, int otherTop, int otherBottom) {
        BigInteger[] p = row(a);
        needFraction(top, bottom);
        needFraction(otherTop, otherBottom);
        need((long) top * otherBottom < (long) otherTop * bottom);
        needNotZero(p);
        BigInteger t = BigInteger.valueOf(top);
        BigInteger b = BigInteger.valueOf(bottom);
        BigInteger t2 = BigInteger.valueOf(otherTop);
        BigInteger b2 = BigInteger.valueOf(otherBottom);
        if (valueOf(p, t, b).signum() == 0 || valueOf(p, t2, b2).signum() == 0) {
            throw new IllegalStateException();
        }
        return changesOf(sturm(p), t, b) - changesOf(sturm(p), t2, b2);
    }

    int sturmLength(int a) {
        needNotZero(row(a));
        return sturm(rows[a]).size();
    }

    int changes(int a, int top, int bottom) {
        row(a);
        needFraction(top, bottom);
        needNotZero(row(a));
        return changesOf(sturm(rows[a]), BigInteger.valueOf(top), BigInteger.valueOf(bottom));
    }

    int closeIn(int a, int root, int bits) {
        BigInteger[] p = row(a);
        if (p.length == 0 || root < 0 || root >= rootCount(p)) {
            throw new IndexOutOfBoundsException();
        }
        need(bits >= 0 && bits <= 20);
        return tell(located(p, root, ONE.shiftLeft(bits)), ONE);
    }

    int fractionRoots(int a) {
        needNotZero(row(a));
        return fractionRootsOf(rows[a]).size();
    }

    int fractionRoot(int a, int root) {
        List<BigInteger[]> all = row(a).length == 0 ? new ArrayList<>() : fractionRootsOf(rows[a]);
        if (root < 0 || root >= all.size()) {
            throw new IndexOutOfBoundsException();
        }
        return tell(all.get(root)[0], all.get(root)[1]);
    }

    private List<Integer> rootsOf(int a, int prime) {
        BigInteger[] p = row(a);
        need(isPrime(prime));
        List<Integer> all = new ArrayList<>();
        for (int i = 0; i < prime; i++) {
            if (valueOf(p, BigInteger.valueOf(i), ONE).mod(BigInteger.valueOf(prime)).signum() == 0) {
                all.add(i);
            }
        }
        return all;
    }

    int rootsBy(int a, int prime) {
        return rootsOf(a, prime).size();
    }

    int rootBy(int a, int prime) {
        List<Integer> all = rootsOf(a, prime);
        if (all.isEmpty()) {
            throw new NoSuchElementException();
        }
        return all.get(0);
    }

    int pointCount() {
        return points.size();
    }

    int append(int a, int b, int c, int d, int e) {
        StringBuilder more = new StringBuilder();
        for (int four : new int[] {a, b, c, d, e}) {
            for (byte one : java.nio.ByteBuffer.allocate(4).putInt(four).array()) {
                if (one != 0) {
                    more.append((char) (one & 255));
                }
            }
        }
        if (buffer.length() + more.length() > 200) {
            throw new IllegalStateException();
        }
        buffer.append(more);
        return buffer.length();
    }

    int clearText() {
        int n = buffer.length();
        buffer.setLength(0);
        return n;
    }

    int errorPosition() {
        return errorAt;
    }

    int write(int a) {
        StringBuilder s = new StringBuilder();
        for (int i = row(a).length - 1; i >= 0; i--) {
            BigInteger c = rows[a][i];
            if (c.signum() != 0) {
                s.append(s.length() == 0 ? c.signum() < 0 ? "-" : "" : c.signum() < 0 ? " - " : " + ");
                String power = i == 0 ? "" : i == 1 ? "x" : "x^" + i;
                boolean isOne = c.abs().equals(ONE);
                s.append(i == 0 ? c.abs().toString() : isOne ? power : c.abs() + "*" + power);
            }
        }
        written = s.length() == 0 ? "0" : s.toString();
        return written.length();
    }

    /** What was written last. */
    String text() {
        return written;
    }

    int writtenAt(int index) {
        if (index < 0 || index >= written.length()) {
            throw new IndexOutOfBoundsException();
        }
        return written.charAt(index);
    }

    double meanTerms() {
        int n = 0;
        for (int i = 0; i < 6; i++) {
            n += terms(i);
        }
        return (double) n / 6.0;
    }

    float usedShare() {
        int n = 0;
        for (int i = 0; i < 6; i++) {
            n += rows[i].length > 0 ? 1 : 0;
        }
        return (float) n / 6.0f;
    }

    int errors() {
        return 0;
    }

    /** A text, cut into tokens first and then read by the grammar. */
    private static final class ModelText {
        int error = -1;
        boolean isTooGreat;
        BigInteger[] value = poly();
        private final List<String> tokens = new ArrayList<>();
        private final List<Integer> starts = new ArrayList<>();
        private int next;

        /** Ends the reading at a token. */
        private static final class Stop extends RuntimeException {
            private static final long serialVersionUID = 1;
        }

        ModelText(String text) {
            int i = 0;
            while (i < text.length()) {
                char c = text.charAt(i);
                int start = i++;
                if (c == ' ') {
                    continue;
                }
                while (c >= '0' && c <= '9' && i < text.length() && text.charAt(i) >= '0' && text.charAt(i) <= '9') {
                    i++;
                }
                tokens.add(text.substring(start, i));
                starts.add(start);
            }
            tokens.add("");
            starts.add(text.length());
            try {
                value = sum(0);
                if (!is("")) {
                    throw new Stop();
                }
            } catch (Stop stop) {
                error = starts.get(next);
            }
        }

        private boolean is(String token) {
            return tokens.get(next).equals(token);
        }

        private BigInteger[] checked(BigInteger[] p) {
            isTooGreat |= !isFitting(p);
            return isTooGreat ? poly() : p;
        }

        private BigInteger[] sum(int open) {
            int sign = 1;
            if (is("-")) {
                next++;
                sign = -1;
            }
            BigInteger[] p = checked(times(product(open), poly(sign)));
            while (is("+") || is("-")) {
                sign = is("+") ? 1 : -1;
                next++;
                p = checked(plus(p, product(open), sign));
            }
            return p;
        }

        private BigInteger[] product(int open) {
            BigInteger[] p = power(open);
            while (is("*")) {
                next++;
                p = checked(times(p, power(open)));
            }
            return p;
        }

        private BigInteger number(int digits, int most) {
            String s = tokens.get(next);
            boolean isNumber = !s.isEmpty() && s.charAt(0) >= '0' && s.charAt(0) <= '9' && s.length() <= digits;
            if (!isNumber || most > 0 && new BigInteger(s).compareTo(BigInteger.valueOf(most)) > 0) {
                throw new Stop();
            }
            next++;
            return new BigInteger(s);
        }

        private BigInteger[] power(int open) {
            BigInteger[] p;
            if (is("x")) {
                next++;
                p = poly(0, 1);
            } else if (is("(") && open < 8) {
                next++;
                p = sum(open + 1);
                if (!is(")")) {
                    throw new Stop();
                }
                next++;
            } else {
                p = times(poly(1), number(18, 0));
            }
            if (is("^")) {
                next++;
                int n = number(18, 12).intValue();
                BigInteger[] base = p;
                p = poly(1);
                for (int i = 0; i < n; i++) {
                    p = times(p, base);
                }
            }
            return checked(p);
        }
    }
}
