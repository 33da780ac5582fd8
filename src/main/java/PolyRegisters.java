import java.util.NoSuchElementException;

/** A bench for polynomials in one variable with whole numbers without an end as coefficients. */
public final class PolyRegisters {
    /** There is none. */
    public static final int NONE = -1;

    private static final int REGISTERS = 6;
    private static final int HIGHEST = 12;
    private static final int ROW = HIGHEST + 1;
    private static final long GREATEST = 999_999_999_999_999_999L;
    private static final int FRACTION_BOUND = 1000;
    private static final int MOST_BITS = 20;
    private static final int MOST_POINTS = 6;
    private static final int FARTHEST_PLACE = 9;
    private static final int GREATEST_HEIGHT = 999;
    private static final int GREATEST_PRIME = 97;
    private static final int BUFFER_BYTES = 200;
    // 13 terms of at most 26 bytes each: " + ", 18 digits and "*x^12".
    private static final int WRITTEN_BYTES = 340;
    private static final int MOST_UNDONE = 8;

    private final Bench bench = new Bench();
    private final Bench[] earlier = new Bench[MOST_UNDONE];
    private int undoable;
    private int nextEarlier;
    private final Text buffer = new Text(BUFFER_BYTES);
    private final Text written = new Text(WRITTEN_BYTES);
    private final Text spare = new Text(WRITTEN_BYTES);
    private final Desk desk = new Desk();
    private final Sturm sturm = new Sturm(desk);
    private final Roots roots = new Roots(desk, sturm);
    private final Reader reader = new Reader(desk, buffer);
    // The longest told number, a value, has 57 digits.
    private final Wide toldTop = new Wide(10);
    private final Wide toldBottom = new Wide(10);
    private final long[] result = new long[ROW];
    private final long[] second = new long[ROW];
    private int errorAt = NONE;

    public PolyRegisters() {
        for (int i = 0; i < earlier.length; i++) {
            earlier[i] = new Bench();
        }
        bench.setFirstRows();
        toldBottom.setLong(1);
    }

    // ---- Changes

    public int add(int to, int a, int b) throws IndexOutOfBoundsException, IllegalStateException {
        rowOf(to);
        if (!sumRows(rowOf(a), rowOf(b), 1, result)) {
            throw new IllegalStateException();
        }
        return keep(to);
    }

    public int subtract(int to, int a, int b) throws IndexOutOfBoundsException, IllegalStateException {
        rowOf(to);
        if (!sumRows(rowOf(a), rowOf(b), -1, result)) {
            throw new IllegalStateException();
        }
        return keep(to);
    }

    public int multiply(int to, int a, int b) throws IndexOutOfBoundsException, IllegalStateException {
        rowOf(to);
        if (!desk.multiplyRows(rowOf(a), rowOf(b), result)) {
            throw new IllegalStateException();
        }
        return keep(to);
    }

    public int power(int to, int a, int exponent)
            throws IndexOutOfBoundsException, IllegalArgumentException, IllegalStateException {
        rowOf(to);
        long[] base = rowOf(a);
        checkExponent(exponent);
        if (!desk.raise(base, exponent, result)) {
            throw new IllegalStateException();
        }
        return keep(to);
    }

    public int derive(int to, int a) throws IndexOutOfBoundsException, IllegalStateException {
        rowOf(to);
        if (!deriveRow(rowOf(a), result)) {
            throw new IllegalStateException();
        }
        return keep(to);
    }

    public int substitute(int to, int a, int b) throws IndexOutOfBoundsException, IllegalStateException {
        rowOf(to);
        if (!desk.putIn(rowOf(a), rowOf(b), result)) {
            throw new IllegalStateException();
        }
        return keep(to);
    }

    public int divide(int quotient, int remainder, int a, int b)
            throws IndexOutOfBoundsException, IllegalArgumentException, ArithmeticException, IllegalStateException {
        rowOf(quotient);
        rowOf(remainder);
        long[] divided = rowOf(a);
        long[] by = rowOf(b);
        if (quotient == remainder) {
            throw new IllegalArgumentException();
        }
        checkNotZero(by);
        int steps = Math.max(degreeOf(divided) - degreeOf(by) + 1, 0);
        if (!desk.divideRows(divided, by, result, second)) {
            throw new IllegalStateException();
        }
        keep(quotient);
        copyRow(second, rowOf(remainder));
        return steps;
    }

    public int gcd(int to, int a, int b) throws IndexOutOfBoundsException, IllegalStateException {
        rowOf(to);
        if (!roots.shareRows(rowOf(a), rowOf(b), result)) {
            throw new IllegalStateException();
        }
        return keep(to);
    }

    public int primitive(int to, int a) throws IndexOutOfBoundsException {
        rowOf(to);
        long[] row = rowOf(a);
        long divisor = signedContentOf(row);
        for (int i = 0; i < ROW && i < row.length; i++) {
            result[i] = divisor == 0 ? 0 : row[i] / divisor;
        }
        return keep(to);
    }

    public int simple(int to, int a) throws IndexOutOfBoundsException, ArithmeticException, IllegalStateException {
        rowOf(to);
        long[] row = rowOf(a);
        checkNotZero(row);
        roots.begin(row);
        if (!roots.storeSimple(result)) {
            throw new IllegalStateException();
        }
        return keep(to);
    }

    public int residue(int to, int a, int prime) throws IndexOutOfBoundsException, IllegalArgumentException {
        rowOf(to);
        long[] row = rowOf(a);
        checkPrime(prime);
        for (int i = 0; i < ROW && i < row.length; i++) {
            result[i] = residueOf(row[i], prime);
        }
        return keep(to);
    }

    public int setTerm(int to, int exponent, long coefficient)
            throws IndexOutOfBoundsException, IllegalArgumentException, IllegalStateException {
        long[] row = rowOf(to);
        checkExponent(exponent);
        if (!isShort(coefficient)) {
            throw new IllegalStateException();
        }
        copyRow(row, result);
        result[exponent] = coefficient;
        return keep(to);
    }

    public int read(int to) throws IndexOutOfBoundsException, IllegalArgumentException, IllegalStateException {
        rowOf(to);
        boolean isText = reader.accepts(buffer);
        buffer.length = 0;
        errorAt = reader.error;
        if (!isText) {
            throw new IllegalArgumentException();
        }
        if (reader.isTooGreat) {
            throw new IllegalStateException();
        }
        copyRow(reader.answer(), result);
        return keep(to);
    }

    public int addPoint(int x, int y) throws IllegalArgumentException, IllegalStateException {
        if (x < -FARTHEST_PLACE || x > FARTHEST_PLACE || y < -GREATEST_HEIGHT || y > GREATEST_HEIGHT) {
            throw new IllegalArgumentException();
        }
        if (bench.points >= MOST_POINTS || bench.hasPlace(x)) {
            throw new IllegalStateException();
        }
        keepEarlier();
        bench.putPoint(x, y);
        return bench.points;
    }

    public int clearPoints() {
        keepEarlier();
        int cleared = bench.points;
        bench.points = 0;
        return cleared;
    }

    public long interpolate(int to) throws IndexOutOfBoundsException, IllegalStateException {
        rowOf(to);
        long multiple = bench.commonWeight();
        desk.left.clear();
        for (int i = 0; i < bench.points; i++) {
            long weight = bench.weight(i);
            bench.putBasis(i, second);
            desk.gather(weight == 0 ? 0 : bench.heightAt(i) * (multiple / weight), second);
        }
        long shared = desk.shorten(multiple);
        if (!desk.left.store(result)) {
            throw new IllegalStateException();
        }
        keep(to);
        return shared == 0 ? multiple : multiple / shared;
    }

    // ---- Undo

    public int undo() {
        if (undoable == 0) {
            return NONE;
        }
        nextEarlier = (nextEarlier + MOST_UNDONE - 1) % MOST_UNDONE;
        undoable--;
        bench.copy(earlierBench());
        return undoable;
    }

    // ---- Polynomials

    public int degree(int a) throws IndexOutOfBoundsException {
        return degreeOf(rowOf(a));
    }

    public int terms(int a) throws IndexOutOfBoundsException {
        return termsOf(rowOf(a));
    }

    public int exponent(int a, int term) throws IndexOutOfBoundsException {
        long[] row = rowOf(a);
        int left = term;
        for (int i = row.length - 1; i >= 0 && left >= 0; i--) {
            if (row[i] != 0) {
                if (left == 0) {
                    return i;
                }
                left--;
            }
        }
        throw new IndexOutOfBoundsException();
    }

    public int coefficient(int a, int exponent) throws IndexOutOfBoundsException, IllegalArgumentException {
        long[] row = rowOf(a);
        checkExponent(exponent);
        return tellLong(row[exponent]);
    }

    public int content(int a) throws IndexOutOfBoundsException {
        return tellLong(contentOf(rowOf(a)));
    }

    public int value(int a, int top, int bottom) throws IndexOutOfBoundsException, IllegalArgumentException {
        long[] row = rowOf(a);
        checkFraction(top, bottom);
        desk.valueAt(row, top, bottom);
        return tellQuotient(desk.one, bottom, degreeOf(row));
    }

    public boolean divides(int a, int b) throws IndexOutOfBoundsException {
        long[] by = rowOf(a);
        long[] divided = rowOf(b);
        return desk.isDivided(divided, by);
    }

    public boolean areSame(int a, int b) throws IndexOutOfBoundsException {
        return areSameRows(rowOf(a), rowOf(b));
    }

    public int agreements(int a, int b) throws IndexOutOfBoundsException {
        long[] first = rowOf(a);
        long[] other = rowOf(b);
        int last = Math.max(0, Math.max(degreeOf(first), degreeOf(other)));
        // The difference may be longer than a register takes: only its zeros are asked for.
        sumRows(first, other, -1, second);
        int count = 0;
        for (int place = 0; place <= last; place++) {
            if (desk.valueAt(second, place, 1) == 0) {
                count++;
            }
        }
        return count;
    }

    // ---- The told number

    public int digits(boolean isBottom) {
        return told(isBottom).digitCount();
    }

    public int digit(boolean isBottom, int place) throws IndexOutOfBoundsException {
        Wide number = told(isBottom);
        if (place < 0 || place >= number.digitCount()) {
            throw new IndexOutOfBoundsException();
        }
        return number.digitAt(place);
    }

    public long low(boolean isBottom) {
        return told(isBottom).lowBits();
    }

    // ---- Roots

    public int realRoots(int a) throws IndexOutOfBoundsException, ArithmeticException {
        long[] row = rowOf(a);
        checkNotZero(row);
        sturm.begin(row, contentOf(row));
        return sturm.changesFar(-1) - sturm.changesFar(1);
    }

    public int rootsBetween(int a, int top, int bottom, int otherTop, int otherBottom)
            throws IndexOutOfBoundsException, IllegalArgumentException, ArithmeticException, IllegalStateException {
        long[] row = rowOf(a);
        checkFraction(top, bottom);
        checkFraction(otherTop, otherBottom);
        if (top * otherBottom >= otherTop * bottom) {
            throw new IllegalArgumentException();
        }
        checkNotZero(row);
        if (desk.valueAt(row, top, bottom) == 0 || desk.valueAt(row, otherTop, otherBottom) == 0) {
            throw new IllegalStateException();
        }
        sturm.begin(row, contentOf(row));
        sturm.stretch(bottom * otherBottom);
        return sturm.changesAt(top * otherBottom) - sturm.changesAt(otherTop * bottom);
    }

    public int sturmLength(int a) throws IndexOutOfBoundsException, ArithmeticException {
        long[] row = rowOf(a);
        checkNotZero(row);
        sturm.begin(row, contentOf(row));
        return sturm.length;
    }

    public int changes(int a, int top, int bottom)
            throws IndexOutOfBoundsException, IllegalArgumentException, ArithmeticException {
        long[] row = rowOf(a);
        checkFraction(top, bottom);
        checkNotZero(row);
        sturm.begin(row, contentOf(row));
        sturm.stretch(bottom);
        return sturm.changesAt(top);
    }

    public int closeIn(int a, int root, int bits) throws IndexOutOfBoundsException, IllegalArgumentException {
        long[] row = rowOf(a);
        // A polynomial has no more roots than its degree: 0 is sorted out here too.
        if (root < 0 || root >= degreeOf(row)) {
            throw new IndexOutOfBoundsException();
        }
        roots.begin(row);
        if (root >= roots.countReal()) {
            throw new IndexOutOfBoundsException();
        }
        if (bits < 0 || bits > MOST_BITS) {
            throw new IllegalArgumentException();
        }
        roots.stretch(1L << bits);
        roots.locate(root);
        return tellQuotient(roots.low, 1, 1);
    }

    public int fractionRoots(int a) throws IndexOutOfBoundsException, ArithmeticException {
        long[] row = rowOf(a);
        checkNotZero(row);
        roots.begin(row);
        roots.countReal();
        return roots.countFractions(HIGHEST);
    }

    public int fractionRoot(int a, int root) throws IndexOutOfBoundsException {
        long[] row = rowOf(a);
        if (root < 0 || root >= degreeOf(row)) {
            throw new IndexOutOfBoundsException();
        }
        roots.begin(row);
        roots.countReal();
        if (roots.countFractions(root + 1) <= root) {
            throw new IndexOutOfBoundsException();
        }
        return tellQuotient(roots.low, roots.scale, 1);
    }

    public int rootsBy(int a, int prime) throws IndexOutOfBoundsException, IllegalArgumentException {
        long[] row = rowOf(a);
        checkPrime(prime);
        int count = 0;
        for (int x = 0; x < prime; x++) {
            if (valueBy(row, x, prime) == 0) {
                count++;
            }
        }
        return count;
    }

    public int rootBy(int a, int prime)
            throws IndexOutOfBoundsException, IllegalArgumentException, NoSuchElementException {
        long[] row = rowOf(a);
        checkPrime(prime);
        for (int x = 0; x < prime; x++) {
            if (valueBy(row, x, prime) == 0) {
                return x;
            }
        }
        throw new NoSuchElementException();
    }

    // ---- Points and texts

    public int pointCount() {
        return bench.points;
    }

    public int append(int a, int b, int c, int d, int e) throws IllegalStateException {
        int more = bytesIn(a) + bytesIn(b) + bytesIn(c) + bytesIn(d) + bytesIn(e);
        if (buffer.length + more > BUFFER_BYTES) {
            throw new IllegalStateException();
        }
        buffer.putBytes(a);
        buffer.putBytes(b);
        buffer.putBytes(c);
        buffer.putBytes(d);
        buffer.putBytes(e);
        return buffer.length;
    }

    public int clearText() {
        int cleared = buffer.length;
        buffer.length = 0;
        return cleared;
    }

    public int errorPosition() {
        return errorAt;
    }

    public int write(int a) throws IndexOutOfBoundsException {
        written.setRow(rowOf(a));
        return written.length;
    }

    public int writtenAt(int index) throws IndexOutOfBoundsException {
        if (index < 0 || index >= written.length) {
            throw new IndexOutOfBoundsException();
        }
        return written.at(index);
    }

    // ---- Measures and the second way

    public double meanTerms() {
        int all = 0;
        for (int i = 0; i < bench.rows.length; i++) {
            all += termsOf(bench.rows[i]);
        }
        return all / 6.0;
    }

    public float usedShare() {
        int used = 0;
        for (int i = 0; i < bench.rows.length; i++) {
            if (degreeOf(bench.rows[i]) >= 0) {
                used++;
            }
        }
        return used / 6.0f;
    }

    public int errors() {
        int wrong = 0;
        for (int a = 0; a < bench.rows.length; a++) {
            for (int b = a + 1; b < bench.rows.length; b++) {
                if (!desk.addsDegrees(bench.rows[a], bench.rows[b])) {
                    wrong++;
                }
            }
        }
        for (int a = 0; a < bench.rows.length; a++) {
            spare.setRow(bench.rows[a]);
            if (!reader.accepts(spare) || reader.isTooGreat || !areSameRows(reader.answer(), bench.rows[a])) {
                wrong++;
            }
        }
        return wrong;
    }

    // ---- What the calls share

    private long[] rowOf(int register) {
        if (register < 0 || register >= bench.rows.length) {
            throw new IndexOutOfBoundsException();
        }
        return bench.rows[register];
    }

    private static void checkExponent(int exponent) {
        if (exponent < 0 || exponent > HIGHEST) {
            throw new IllegalArgumentException();
        }
    }

    private static void checkFraction(int top, int bottom) {
        if (top < -FRACTION_BOUND || top > FRACTION_BOUND || bottom < 1 || bottom > FRACTION_BOUND) {
            throw new IllegalArgumentException();
        }
    }

    private static void checkPrime(int prime) {
        boolean isPrime = prime >= 2 && prime <= GREATEST_PRIME;
        for (int i = 2; i * i <= GREATEST_PRIME; i++) {
            isPrime = isPrime && (prime == i || prime % i != 0);
        }
        if (!isPrime) {
            throw new IllegalArgumentException();
        }
    }

    private static void checkNotZero(long[] row) {
        if (degreeOf(row) < 0) {
            throw new ArithmeticException();
        }
    }

    // Changes make their polynomial in the result first: the registers of a call may be the same.
    private int keep(int to) {
        keepEarlier();
        copyRow(result, rowOf(to));
        return degreeOf(result);
    }

    private Bench earlierBench() {
        return earlier[nextEarlier >= 0 && nextEarlier < earlier.length ? nextEarlier : 0];
    }

    private void keepEarlier() {
        earlierBench().copy(bench);
        nextEarlier = (nextEarlier + 1) % MOST_UNDONE;
        undoable = Math.min(undoable + 1, MOST_UNDONE);
    }

    private Wide told(boolean isBottom) {
        return isBottom ? toldBottom : toldTop;
    }

    private int tellLong(long number) {
        toldTop.setLong(number);
        toldBottom.setLong(1);
        return toldTop.sign;
    }

    /** Tells number / factor^times, where the factor is above 0; taken one by one, factors leave it in lowest terms. */
    private int tellQuotient(Wide number, long factor, int times) {
        toldTop.set(number);
        toldBottom.setLong(1);
        for (int i = 0; i < times; i++) {
            long shared = desk.commonOf(toldTop, factor);
            desk.lessen(toldTop, shared);
            desk.enlarge(toldBottom, shared == 0 ? factor : factor / shared);
        }
        return toldTop.sign;
    }

    private static int bytesIn(int four) {
        int count = 0;
        for (int shift = 24; shift >= 0; shift -= 8) {
            if ((four >> shift & 255) != 0) {
                count++;
            }
        }
        return count;
    }

    // ---- Rows: the coefficients of a polynomial in a register, by their exponents
    // (what makes a row and returns a boolean says whether a register may take it)

    private static boolean isShort(long number) {
        return number >= -GREATEST && number <= GREATEST;
    }

    private static int degreeOf(long[] row) {
        for (int i = row.length - 1; i >= 0; i--) {
            if (row[i] != 0) {
                return i;
            }
        }
        return -1;
    }

    private static int termsOf(long[] row) {
        int count = 0;
        for (int i = 0; i < row.length; i++) {
            if (row[i] != 0) {
                count++;
            }
        }
        return count;
    }

    private static void copyRow(long[] from, long[] to) {
        for (int i = 0; i < to.length; i++) {
            to[i] = i < from.length ? from[i] : 0;
        }
    }

    private static void clearRow(long[] row) {
        for (int i = 0; i < row.length; i++) {
            row[i] = 0;
        }
    }

    private static boolean areSameRows(long[] a, long[] b) {
        for (int i = 0; i < a.length && i < b.length; i++) {
            if (a[i] != b[i]) {
                return false;
            }
        }
        return a.length == b.length;
    }

    private static boolean sumRows(long[] a, long[] b, int factor, long[] to) {
        boolean isFitting = true;
        for (int i = 0; i < to.length && i < a.length && i < b.length; i++) {
            to[i] = a[i] + factor * b[i];
            isFitting = isFitting && isShort(to[i]);
        }
        return isFitting;
    }

    private static boolean deriveRow(long[] row, long[] to) {
        clearRow(to);
        for (int i = 1; i < row.length && i <= to.length; i++) {
            // A coefficient of a register times 12 may run over a long: so the bound is divided instead.
            if (row[i] > GREATEST / i || row[i] < -(GREATEST / i)) {
                return false;
            }
            to[i - 1] = row[i] * i;
        }
        return true;
    }

    private static long contentOf(long[] row) {
        long content = 0;
        for (int i = 0; i < row.length; i++) {
            content = commonOfLongs(content, row[i]);
        }
        return content;
    }

    /** The content with the sign of the leading coefficient: what the primitive part comes of. */
    private static long signedContentOf(long[] row) {
        int degree = degreeOf(row);
        long content = contentOf(row);
        return degree >= 0 && row[degree] < 0 ? -content : content;
    }

    private static long commonOfLongs(long a, long b) {
        long great = a < 0 ? -a : a;
        long small = b < 0 ? -b : b;
        // Two rounds at least halve the numbers: 63 bits are gone after 126.
        for (int i = 0; i < 130 && small != 0; i++) {
            long rest = great % small;
            great = small;
            small = rest;
        }
        return great;
    }

    private static int residueOf(long number, int prime) {
        long rest = prime <= 0 ? 0 : number % prime;
        return (int) (rest < 0 ? rest + prime : rest);
    }

    private static int valueBy(long[] row, int x, int prime) {
        int sum = 0;
        for (int i = row.length - 1; i >= 0; i--) {
            sum = residueOf((long) sum * x + residueOf(row[i], prime), prime);
        }
        return sum;
    }

    /** What the changes change: the polynomials of the registers, and the points. */
    private static final class Bench {
        final long[][] rows = new long[REGISTERS][ROW];
        private final int[] places = new int[MOST_POINTS];
        private final int[] heights = new int[MOST_POINTS];
        int points;

        void setFirstRows() {
            rows[0][2] = 1;
            rows[0][0] = -2;
            rows[1][3] = 1;
            rows[1][1] = -1;
            rows[2][2] = 6;
            rows[2][1] = -5;
            rows[2][0] = 1;
        }

        void copy(Bench other) {
            for (int i = 0; i < rows.length && i < other.rows.length; i++) {
                copyRow(other.rows[i], rows[i]);
            }
            points = 0;
            for (int i = 0; i < other.points; i++) {
                putPoint(other.placeAt(i), other.heightAt(i));
            }
        }

        void putPoint(int x, int y) {
            if (points < places.length && points < heights.length) {
                places[points] = x;
                heights[points] = y;
                points++;
            }
        }

        boolean hasPlace(int x) {
            for (int i = 0; i < points; i++) {
                if (placeAt(i) == x) {
                    return true;
                }
            }
            return false;
        }

        private int placeAt(int point) {
            return point >= 0 && point < places.length ? places[point] : 0;
        }

        int heightAt(int point) {
            return point >= 0 && point < heights.length ? heights[point] : 0;
        }

        /** What the basis of a point has as its value at the point's own place. */
        long weight(int point) {
            long product = 1;
            for (int i = 0; i < points; i++) {
                if (i != point) {
                    product *= placeAt(point) - placeAt(i);
                }
            }
            return product;
        }

        // The weights' least common multiple stays below 10^15, since all distances are at most 18 (NOTES.md).
        long commonWeight() {
            long multiple = 1;
            for (int i = 0; i < points; i++) {
                long weight = weight(i);
                long shared = commonOfLongs(multiple, weight);
                multiple *= shared == 0 ? 1 : weight / shared;
            }
            return multiple < 0 ? -multiple : multiple;
        }

        /** A polynomial that is 0 at the places of all other points. */
        void putBasis(int point, long[] to) {
            clearRow(to);
            to[0] = 1;
            for (int i = 0; i < points; i++) {
                if (i != point) {
                    for (int j = to.length - 1; j >= 0; j--) {
                        to[j] = (j > 0 ? to[j - 1] : 0) - placeAt(i) * to[j];
                    }
                }
            }
        }
    }

    private static final class Text {
        private final byte[] bytes;
        int length;

        Text(int most) {
            bytes = new byte[most > 0 ? most : 0];
        }

        int at(int index) {
            return index >= 0 && index < length && index < bytes.length ? bytes[index] & 255 : NONE;
        }

        private void put(int sign) {
            if (length >= 0 && length < bytes.length) {
                bytes[length] = (byte) sign;
                length++;
            }
        }

        void putBytes(int four) {
            for (int shift = 24; shift >= 0; shift -= 8) {
                int sign = four >> shift & 255;
                if (sign != 0) {
                    put(sign);
                }
            }
        }

        void setRow(long[] row) {
            length = 0;
            for (int i = row.length - 1; i >= 0; i--) {
                if (row[i] != 0) {
                    putTerm(row[i], i);
                }
            }
            if (length == 0) {
                put('0');
            }
        }

        private void putTerm(long coefficient, int exponent) {
            boolean isFirst = length == 0;
            if (!isFirst) {
                put(' ');
            }
            if (coefficient < 0) {
                put('-');
            } else if (!isFirst) {
                put('+');
            }
            if (!isFirst) {
                put(' ');
            }
            long size = coefficient < 0 ? -coefficient : coefficient;
            if (size != 1 || exponent == 0) {
                putNumber(size);
            }
            if (size != 1 && exponent > 0) {
                put('*');
            }
            if (exponent > 0) {
                put('x');
            }
            if (exponent > 1) {
                put('^');
                putNumber(exponent);
            }
        }

        private void putNumber(long number) {
            long unit = 1;
            for (int i = 0; i < 18 && number / unit >= 10; i++) {
                unit *= 10;
            }
            for (int i = 0; i < 19 && unit > 0; i++) {
                put((int) ('0' + number / unit % 10));
                unit /= 10;
            }
        }
    }

    /** A whole number: its sign, and its size in limbs of nine decimal digits, the lowest first. */
    private static final class Wide {
        static final int BASE = 1_000_000_000;
        // A sum of products of limbs that stays below this takes one more product without running over a long.
        private static final long GATHERED = 8_000_000_000_000_000_000L;
        private final int[] limbs;
        private int size;
        private int sign;

        Wide(int most) {
            limbs = new int[most > 0 ? most : 1];
        }

        void setLong(long number) {
            long rest = number;
            size = 0;
            for (int i = 0; i < limbs.length && rest != 0; i++) {
                int limb = (int) (rest % BASE);
                limbs[i] = limb < 0 ? -limb : limb;
                rest /= BASE;
                size = i + 1;
            }
            sign = number < 0 ? -1 : number > 0 ? 1 : 0;
        }

        void set(Wide other) {
            size = Math.min(other.size, Math.min(limbs.length, other.limbs.length));
            for (int i = 0; i < size; i++) {
                limbs[i] = other.limbs[i];
            }
            sign = size == 0 ? 0 : other.sign;
        }

        void setSizeOf(Wide other) {
            set(other);
            sign = sign == 0 ? 0 : 1;
        }

        int limbAt(int index) {
            return index >= 0 && index < size && index < limbs.length ? limbs[index] : 0;
        }

        void putLimb(int index, int limb) {
            if (index >= 0 && index < limbs.length) {
                limbs[index] = limb;
                if (limb != 0 && index >= size) {
                    size = index + 1;
                }
            }
        }

        /** Adds factor times the other number, where the factor is 1 or -1. */
        void plus(Wide other, int factor) {
            int otherSign = other.sign * factor;
            if (otherSign == 0) {
                return;
            }
            if (sign == 0) {
                set(other);
                sign = otherSign;
            } else if (sign == otherSign) {
                gather(other);
            } else if (isLess(other)) {
                differ(other, this);
                sign = otherSign;
            } else {
                differ(this, other);
            }
            sign = size == 0 ? 0 : sign;
        }

        private boolean isLess(Wide other) {
            if (size != other.size) {
                return size < other.size;
            }
            for (int i = size - 1; i >= 0 && i < limbs.length && i < other.limbs.length; i--) {
                if (limbs[i] != other.limbs[i]) {
                    return limbs[i] < other.limbs[i];
                }
            }
            return false;
        }

        private void gather(Wide other) {
            int mine = size;
            int others = Math.min(other.size, other.limbs.length);
            int carry = 0;
            for (int i = 0; i < limbs.length && (i < mine || i < others || carry > 0); i++) {
                int sum = carry + (i < mine ? limbs[i] : 0) + (i < others ? other.limbs[i] : 0);
                carry = sum >= BASE ? 1 : 0;
                limbs[i] = sum - carry * BASE;
                size = i + 1;
            }
        }

        private void differ(Wide great, Wide small) {
            int all = Math.min(great.size, Math.min(limbs.length, great.limbs.length));
            int few = Math.min(small.size, small.limbs.length);
            int used = 0;
            int borrow = 0;
            for (int i = 0; i < all; i++) {
                int limb = great.limbs[i] - borrow - (i < few ? small.limbs[i] : 0);
                borrow = limb < 0 ? 1 : 0;
                limbs[i] = limb + borrow * BASE;
                used = limbs[i] != 0 ? i + 1 : used;
            }
            size = used;
        }

        // The factors are still read while limbs are written: they must be other numbers.
        void setProduct(Wide a, Wide b) {
            int many = Math.min(a.size, a.limbs.length);
            int others = Math.min(b.size, b.limbs.length);
            int columns = Math.min(many + others, limbs.length);
            long carry = 0;
            size = 0;
            for (int k = 0; k < columns; k++) {
                long low = carry;
                long high = 0;
                int last = Math.min(k, many - 1);
                for (int i = Math.max(0, k - others + 1); i <= last; i++) {
                    low += (long) a.limbs[i] * b.limbs[k - i];
                    if (low >= GATHERED) {
                        low -= GATHERED;
                        high += GATHERED / BASE;
                    }
                }
                carry = high + low / BASE;
                limbs[k] = (int) (low % BASE);
                size = limbs[k] != 0 ? k + 1 : size;
            }
            sign = size == 0 ? 0 : a.sign * b.sign;
        }

        // The factor is at most the base, so that a limb's product and the carry fit into a long.
        void scale(long factor) {
            long carry = 0;
            for (int i = 0; i < limbs.length && (i < size || carry > 0); i++) {
                long limb = (i < size ? limbs[i] * factor : 0) + carry;
                limbs[i] = (int) (limb % BASE);
                carry = limb / BASE;
                size = i >= size ? i + 1 : size;
            }
        }

        // The factor is at most the base here too. Limbs that are 0 on top are dropped, also by the factor 1.
        void cut(long factor) {
            long rest = 0;
            int used = 0;
            for (int i = Math.min(size, limbs.length) - 1; i >= 0 && factor > 0; i--) {
                long limb = rest * BASE + limbs[i];
                limbs[i] = (int) (limb / factor);
                rest = limb % factor;
                used = used == 0 && limbs[i] != 0 ? i + 1 : used;
            }
            size = used;
            sign = size == 0 ? 0 : sign;
        }

        int digitCount() {
            int count = size == 0 ? 1 : (size - 1) * 9;
            int top = limbAt(size - 1);
            for (int i = 0; i < 9 && top != 0; i++) {
                top /= 10;
                count++;
            }
            return count;
        }

        int digitAt(int place) {
            int limb = limbAt(place / 9);
            for (int i = place % 9; i > 0; i--) {
                limb /= 10;
            }
            return limb % 10;
        }

        /** The lowest 64 bits as a two's complement: the number itself, if it has at most 18 digits. */
        long lowBits() {
            long sum = 0;
            for (int i = size - 1; i >= 0 && i < limbs.length; i--) {
                sum = sum * BASE + limbs[i];
            }
            return sign < 0 ? -sum : sum;
        }
    }

    /** A number that others are divided by, made ready once for many divisions. */
    private static final class Divisor {
        private final int[] limbs;
        private int size;
        private int sign;
        // Divisor and divided numbers are taken times this, so that quotients can be guessed from few limbs.
        private long factor = 1;

        Divisor(int most) {
            limbs = new int[most > 0 ? most : 1];
        }

        void prepare(Wide number) {
            int[] from = number.limbs;
            size = Math.min(number.size, Math.min(limbs.length, from.length));
            sign = number.sign;
            factor = size > 0 && from[size - 1] > 0 ? Wide.BASE / (from[size - 1] + 1L) : 1;
            long carry = 0;
            for (int i = 0; i < size; i++) {
                long limb = from[i] * factor + carry;
                limbs[i] = (int) (limb % Wide.BASE);
                carry = limb / Wide.BASE;
            }
        }

        /** Divides toward 0; the divided number becomes the remainder. */
        void split(Wide divided, Wide quotient) {
            int quotientSign = divided.sign * sign;
            quotient.setLong(0);
            if (quotientSign == 0) {
                return;
            }
            divided.scale(factor);
            for (int place = divided.size - size; place >= 0; place--) {
                long part = guess(divided, place + size);
                if (!takeAway(divided, place, part)) {
                    putBack(divided, place);
                    part--;
                }
                quotient.putLimb(place, (int) part);
            }
            quotient.sign = quotient.size == 0 ? 0 : quotientSign;
            divided.cut(factor);
        }

        /** A limb of the quotient, or 1 more (Knuth, Algorithm D in 4.3.1). */
        private long guess(Wide divided, int top) {
            int[] from = divided.limbs;
            if (top < 1 || top > from.length || size < 1 || size > limbs.length || limbs[size - 1] < 1) {
                return 0;
            }
            long lead = limbs[size - 1];
            long next = size > 1 ? limbs[size - 2] : 0;
            long high = top < divided.size && top < from.length ? from[top] : 0;
            long upper = high * Wide.BASE + from[top - 1];
            long under = size > 1 && top > 1 ? from[top - 2] : 0;
            long guess = upper / lead;
            long rest = upper % lead;
            for (int i = 0; i < 2 && rest < Wide.BASE; i++) {
                if (guess >= Wide.BASE || guess * next > rest * Wide.BASE + under) {
                    guess--;
                    rest += lead;
                }
            }
            return guess;
        }

        /** Says whether there was enough to take so many times the divisor away. */
        private boolean takeAway(Wide divided, int place, long times) {
            int[] from = divided.limbs;
            int top = place + size;
            long borrow = 0;
            for (int i = Math.max(place, 0); i < top && i < from.length; i++) {
                long taken = times * limbs[i - place] + borrow;
                long limb = from[i] - taken % Wide.BASE;
                borrow = taken / Wide.BASE + (limb < 0 ? 1 : 0);
                from[i] = (int) (limb < 0 ? limb + Wide.BASE : limb);
            }
            if (top < 0 || top >= divided.size || top >= from.length) {
                return borrow == 0;
            }
            boolean isEnough = from[top] >= borrow;
            from[top] = 0;
            return isEnough;
        }

        private void putBack(Wide divided, int place) {
            int[] from = divided.limbs;
            int carry = 0;
            for (int i = Math.max(place, 0); i < place + size && i < from.length; i++) {
                int limb = from[i] + limbs[i - place] + carry;
                carry = limb >= Wide.BASE ? 1 : 0;
                from[i] = limb - carry * Wide.BASE;
            }
        }
    }

    /** A polynomial whose coefficients have no bounds but those of its way. */
    private static final class Poly {
        private final Wide[] parts;
        private final Wide beyond = new Wide(1);
        int degree = -1;

        /** The coefficient of x^i takes so many limbs, and fewer by i times less. */
        Poly(int count, int limbs, int less) {
            parts = new Wide[count > 0 ? count : 1];
            for (int i = 0; i < parts.length; i++) {
                parts[i] = new Wide(limbs - less * i);
            }
        }

        Wide at(int exponent) {
            return exponent >= 0 && exponent < parts.length ? parts[exponent] : beyond;
        }

        Wide lead() {
            return at(degree);
        }

        int highest() {
            return parts.length - 1;
        }

        void clear() {
            for (int i = 0; i < parts.length; i++) {
                parts[i].setLong(0);
            }
            degree = -1;
        }

        void load(long[] row, long divisor) {
            for (int i = 0; i < parts.length; i++) {
                parts[i].setLong(i < row.length && divisor != 0 ? row[i] / divisor : 0);
            }
            settle();
        }

        void set(Poly other) {
            for (int i = 0; i < parts.length; i++) {
                parts[i].set(other.at(i));
            }
            settle();
        }

        void settle() {
            degree = -1;
            for (int i = 0; i < parts.length; i++) {
                degree = parts[i].sign != 0 ? i : degree;
            }
        }

        void negate() {
            for (int i = 0; i < parts.length; i++) {
                parts[i].sign = -parts[i].sign;
            }
        }

        boolean store(long[] to) {
            for (int i = 0; i < parts.length; i++) {
                // Two limbs are the 18 digits of a register.
                if (parts[i].size > (i <= HIGHEST ? 2 : 0)) {
                    return false;
                }
            }
            for (int i = 0; i < to.length; i++) {
                to[i] = at(i).lowBits();
            }
            return true;
        }
    }

    /** Sums, products and divisions of polynomials, with the room that they need on the way. */
    private static final class Desk {
        // The longest coefficients on the way to a quotient or a power have 260 digits.
        final Poly left = new Poly(ROW, 30, 0);
        final Poly right = new Poly(ROW, 30, 0);
        // On the way to a row of Sturm a coefficient has up to 2050 digits (NOTES.md tells why).
        final Poly rest = new Poly(ROW, 236, 0);
        private final Poly product = new Poly(2 * HIGHEST + 1, 6, 0);
        final Wide one = new Wide(240);
        final Wide two = new Wide(240);
        private final Wide small = new Wide(40);
        final Divisor divisor = new Divisor(60);

        boolean multiplyRows(long[] a, long[] b, long[] to) {
            left.load(a, 1);
            right.load(b, 1);
            return times(product, left, right) && product.store(to);
        }

        boolean raise(long[] base, int exponent, long[] to) {
            right.load(base, 1);
            left.clear();
            left.at(0).setLong(1);
            left.settle();
            for (int i = 0; i < exponent; i++) {
                if (!times(rest, left, right)) {
                    return false;
                }
                left.set(rest);
            }
            return left.store(to);
        }

        boolean putIn(long[] outer, long[] inner, long[] to) {
            right.load(inner, 1);
            left.clear();
            for (int i = outer.length - 1; i >= 0; i--) {
                if (!times(rest, left, right)) {
                    return false;
                }
                one.setLong(outer[i]);
                rest.at(0).plus(one, 1);
                left.set(rest);
            }
            return left.store(to);
        }

        // The product's place is cleared first: the factors must stand elsewhere. A degree above it is refused.
        private boolean times(Poly to, Poly a, Poly b) {
            to.clear();
            if (a.degree >= 0 && b.degree >= 0 && a.degree + b.degree > to.highest()) {
                return false;
            }
            for (int i = 0; i <= a.degree; i++) {
                for (int j = 0; j <= b.degree && a.at(i).sign != 0; j++) {
                    one.setProduct(a.at(i), b.at(j));
                    to.at(i + j).plus(one, 1);
                }
            }
            to.settle();
            return true;
        }

        boolean addsDegrees(long[] a, long[] b) {
            left.load(a, 1);
            right.load(b, 1);
            times(product, left, right);
            int due = left.degree < 0 || right.degree < 0 ? -1 : left.degree + right.degree;
            return product.degree == due;
        }

        boolean divideRows(long[] divided, long[] by, long[] quotient, long[] remainder) {
            rest.load(divided, 1);
            right.load(by, 1);
            left.clear();
            for (int shift = rest.degree - right.degree; shift >= 0; shift--) {
                for (int i = shift + 1; i <= left.highest(); i++) {
                    one.setProduct(left.at(i), right.lead());
                    left.at(i).set(one);
                }
                left.at(shift).set(rest.at(right.degree + shift));
                eliminate(rest, right, shift);
            }
            return left.store(quotient) && rest.store(remainder);
        }

        // One step of a division. All is multiplied by the leading coefficient first, so that no fractions come up.
        void eliminate(Poly from, Poly by, int shift) {
            Wide top = from.at(by.degree + shift);
            Wide lead = by.lead();
            for (int i = 0; i < by.degree + shift; i++) {
                Wide part = from.at(i);
                one.setProduct(part, lead);
                if (i >= shift) {
                    two.setProduct(top, by.at(i - shift));
                    one.plus(two, -1);
                }
                part.set(one);
            }
            top.setLong(0);
        }

        boolean isDivided(long[] divided, long[] by) {
            rest.load(divided, 1);
            right.load(by, 1);
            if (rest.degree < right.degree || right.degree < 0) {
                return rest.degree < 0;
            }
            return divideExactly(right, left);
        }

        /** Divides the rest without multiplying it; false as soon as a fraction comes up, or if something is left. */
        boolean divideExactly(Poly by, Poly quotient) {
            quotient.clear();
            divisor.prepare(by.lead());
            for (int shift = rest.degree - by.degree; shift >= 0; shift--) {
                Wide part = quotient.at(shift);
                one.set(rest.at(by.degree + shift));
                divisor.split(one, part);
                if (one.sign != 0) {
                    return false;
                }
                for (int i = 0; i <= by.degree; i++) {
                    two.setProduct(part, by.at(i));
                    rest.at(i + shift).plus(two, -1);
                }
            }
            quotient.settle();
            rest.settle();
            return rest.degree < 0;
        }

        // One division after the other keeps the divisor short: powers of it would be longer than its room.
        void divideParts(Poly poly, Wide by, int times) {
            divisor.prepare(by);
            for (int i = 0; i <= poly.degree; i++) {
                Wide part = poly.at(i);
                for (int j = 0; j < times; j++) {
                    divisor.split(part, one);
                    part.set(one);
                }
            }
        }

        void gather(long factor, long[] row) {
            small.setLong(factor);
            for (int i = 0; i < row.length; i++) {
                two.setLong(row[i]);
                one.setProduct(small, two);
                left.at(i).plus(one, 1);
            }
            left.settle();
        }

        /** Divides the left polynomial by the greatest number that divides it and the number; returns that. */
        long shorten(long number) {
            long shared = number;
            for (int i = 0; i <= left.degree; i++) {
                shared = commonOf(left.at(i), shared);
            }
            small.setLong(shared);
            divideParts(left, small, 1);
            return shared;
        }

        /** The greatest number that divides both; the second one is above 0, and has at most 18 digits. */
        long commonOf(Wide number, long other) {
            small.setLong(other);
            divisor.prepare(small);
            two.set(number);
            divisor.split(two, one);
            return commonOfLongs(two.lowBits(), other);
        }

        void enlarge(Wide number, long factor) {
            small.setLong(factor);
            one.setProduct(number, small);
            number.set(one);
        }

        void lessen(Wide number, long by) {
            small.setLong(by);
            divisor.prepare(small);
            divisor.split(number, one);
            number.set(one);
        }

        /** Multiplies the roots by the scale: a fraction with this bottom becomes a whole place. */
        void stretch(Poly poly, long scale) {
            small.setLong(1);
            for (int i = poly.degree - 1; i >= 0 && scale != 1; i--) {
                two.setLong(scale);
                one.setProduct(small, two);
                small.set(one);
                one.setProduct(poly.at(i), small);
                poly.at(i).set(one);
            }
        }

        /** Leaves the value times bottom to the power of the degree, and returns its sign. */
        int valueAt(long[] row, int top, int bottom) {
            rest.load(row, 1);
            stretch(rest, bottom);
            small.setLong(top);
            return valueAt(rest, small);
        }

        /** Leaves the value, and returns its sign. */
        int valueAt(Poly poly, Wide place) {
            one.setLong(0);
            for (int i = poly.degree; i >= 0; i--) {
                two.setProduct(one, place);
                two.plus(poly.at(i), 1);
                one.set(two);
            }
            return one.sign;
        }
    }

    /** The row of Sturm; each of its polynomials is taken times a number above 0 that keeps it whole and short. */
    private static final class Sturm {
        private final Desk desk;
        final Poly[] row = new Poly[ROW + 1];
        int length;
        // What the next remainders can be divided by (NOTES.md: the subresultants).
        private final Wide lead = new Wide(60);
        private final Wide known = new Wide(60);
        private final Wide place = new Wide(3);

        Sturm(Desk desk) {
            this.desk = desk;
            for (int i = 0; i < row.length; i++) {
                row[i] = i < 2 ? new Poly(ROW, 30, 2) : new Poly(ROW + 1 - i, 56, 4);
            }
        }

        // The divisor is a content: shorter coefficients make shorter remainders.
        void begin(long[] first, long divisor) {
            row[0].load(first, divisor);
            putDerivative();
            goOn();
        }

        void putDerivative() {
            Poly derived = row[1];
            derived.clear();
            for (int i = 1; i <= row[0].degree; i++) {
                derived.at(i - 1).set(row[0].at(i));
                derived.at(i - 1).scale(i);
            }
            derived.settle();
        }

        // The first two polynomials stand there; the degree of the second one is not the greater one.
        void goOn() {
            length = row[1].degree < 0 ? 1 : 2;
            lead.setLong(1);
            known.setLong(1);
            for (int i = 2; i < row.length && row[i - 1].degree > 0; i++) {
                makeNext(row[i - 2], row[i - 1], row[i]);
                if (row[i].degree < 0) {
                    return;
                }
                length = i + 1;
            }
        }

        private void makeNext(Poly divided, Poly by, Poly next) {
            int gap = divided.degree - by.degree;
            desk.rest.set(divided);
            for (int shift = gap; shift >= 0; shift--) {
                desk.eliminate(desk.rest, by, shift);
            }
            desk.rest.settle();
            desk.divideParts(desk.rest, lead, 1);
            desk.divideParts(desk.rest, known, gap);
            next.set(desk.rest);
            // The remainder was taken times the leading coefficient once more than the gap.
            if (by.lead().sign > 0 || gap % 2 != 0) {
                next.negate();
            }
            lead.setSizeOf(by.lead());
            if (gap > 0) {
                renewKnown(gap);
            }
        }

        private void renewKnown(int gap) {
            Wide power = desk.one;
            power.set(lead);
            for (int i = 1; i < gap; i++) {
                desk.two.setProduct(power, lead);
                power.set(desk.two);
            }
            desk.divisor.prepare(known);
            for (int i = 1; i < gap; i++) {
                desk.divisor.split(power, desk.two);
                power.set(desk.two);
            }
            known.set(power);
        }

        Poly last() {
            return row[length > 0 && length <= row.length ? length - 1 : 0];
        }

        void stretch(long scale) {
            for (int i = 0; i < length && i < row.length; i++) {
                desk.stretch(row[i], scale);
            }
        }

        int changesAt(long number) {
            place.setLong(number);
            return changesAt(place);
        }

        int changesAt(Wide number) {
            int count = 0;
            int before = 0;
            for (int i = 0; i < length && i < row.length; i++) {
                int sign = desk.valueAt(row[i], number);
                count += sign * before < 0 ? 1 : 0;
                before = sign == 0 ? before : sign;
            }
            return count;
        }

        /** The changes of sign beyond all roots, on the side of the sign 1 or -1. */
        int changesFar(int side) {
            int count = 0;
            int before = 0;
            for (int i = 0; i < length && i < row.length; i++) {
                int sign = row[i].lead().sign * (row[i].degree % 2 != 0 ? side : 1);
                count += sign * before < 0 ? 1 : 0;
                before = sign;
            }
            return count;
        }
    }

    /** Common divisors, simple parts, and the places of real roots. */
    private static final class Roots {
        private final Desk desk;
        private final Sturm sturm;
        // The row of Sturm is the simple part's own.
        private boolean isSimple;
        private int count;
        private int changesBelow;
        long scale;
        // The greatest whole number that is not greater than the located root times the scale.
        final Wide low = new Wide(12);
        private boolean isExact;
        private final Wide bound = new Wide(12);
        private final Wide step = new Wide(12);
        private final Wide tried = new Wide(12);
        private final Wide unit = new Wide(1);

        Roots(Desk desk, Sturm sturm) {
            this.desk = desk;
            this.sturm = sturm;
            unit.setLong(1);
        }

        boolean shareRows(long[] a, long[] b, long[] to) {
            long[] high = degreeOf(a) >= degreeOf(b) ? a : b;
            long[] deep = degreeOf(a) >= degreeOf(b) ? b : a;
            long shared = commonOfLongs(contentOf(high), contentOf(deep));
            if (degreeOf(deep) < 0) {
                desk.left.load(high, signedContentOf(high));
            } else {
                sturm.row[0].load(high, signedContentOf(high));
                sturm.row[1].load(deep, signedContentOf(deep));
                long lead = commonOfLongs(sturm.row[0].lead().lowBits(), sturm.row[1].lead().lowBits());
                sturm.goOn();
                takePrimitive(sturm.last(), lead);
            }
            for (int i = 0; i <= desk.left.degree; i++) {
                desk.enlarge(desk.left.at(i), shared);
            }
            return desk.left.store(to);
        }

        /** Leaves the primitive part in the left polynomial; its leading coefficient divides the told one. */
        private void takePrimitive(Poly poly, long lead) {
            desk.left.clear();
            desk.divisor.prepare(poly.lead());
            for (int i = 0; i <= poly.degree; i++) {
                desk.two.set(poly.at(i));
                desk.enlarge(desk.two, lead);
                desk.divisor.split(desk.two, desk.left.at(i));
            }
            desk.left.settle();
            desk.shorten(lead);
        }

        /** Puts the simple part of a row that is not 0 into the first place of the row of Sturm. */
        void begin(long[] row) {
            sturm.row[0].load(row, signedContentOf(row));
            sturm.putDerivative();
            sturm.goOn();
            isSimple = sturm.last().degree <= 0;
            if (!isSimple) {
                takePrimitive(sturm.last(), sturm.row[0].lead().lowBits());
                desk.rest.set(sturm.row[0]);
                desk.divideExactly(desk.left, desk.right);
                sturm.row[0].set(desk.right);
            }
        }

        boolean storeSimple(long[] to) {
            return sturm.row[0].store(to);
        }

        int countReal() {
            if (!isSimple) {
                sturm.putDerivative();
                sturm.goOn();
            }
            changesBelow = sturm.changesFar(-1);
            count = changesBelow - sturm.changesFar(1);
            return count;
        }

        // The bound is a power of 2, so that steps can be halved down to 1.
        void stretch(long by) {
            scale = by;
            Poly simple = sturm.row[0];
            tried.setLong(0);
            for (int i = 0; i <= simple.degree; i++) {
                tried.plus(simple.at(i), simple.at(i).sign);
            }
            // A root is at most the sum of all sizes divided by the leading one.
            desk.enlarge(tried, by);
            bound.setLong(1);
            step.set(simple.lead());
            for (int i = 0; i < 200; i++) {
                low.set(tried);
                low.plus(step, -1);
                if (low.sign <= 0) {
                    break;
                }
                step.plus(step, 1);
                bound.plus(bound, 1);
            }
            sturm.stretch(by);
        }

        /**
         * Closes in a root between low (left out) and low and two steps. While other roots are there too,
         * changes of sign tell the side; then the sign of the simple part does, for a tenth of the work.
         */
        void locate(int root) {
            Poly simple = sturm.row[0];
            int upToLow = 0;
            int upToHigh = count;
            int signBelow = (count - root) % 2 == 0 ? 1 : -1;
            low.set(bound);
            low.sign = -1;
            step.set(bound);
            for (int i = 0; i < 200 && step.sign != 0; i++) {
                tried.set(low);
                tried.plus(step, 1);
                if (upToHigh - upToLow <= 1) {
                    if (desk.valueAt(simple, tried) == signBelow) {
                        low.set(tried);
                    }
                } else {
                    int upTo = changesBelow - sturm.changesAt(tried);
                    if (upTo <= root) {
                        low.set(tried);
                        upToLow = upTo;
                    } else {
                        upToHigh = upTo;
                    }
                }
                step.cut(2);
            }
            tried.set(low);
            tried.plus(unit, 1);
            // With one more root up to there, that one and not this one may be the whole number.
            isExact = upToHigh == root + 1 && desk.valueAt(simple, tried) == 0;
            if (isExact) {
                low.set(tried);
            }
        }

        /** Stops at the wanted number; the last root that was found is low divided by the scale. */
        int countFractions(int wanted) {
            // Times the leading coefficient all of them are whole numbers.
            stretch(sturm.row[0].lead().lowBits());
            int found = 0;
            for (int root = 0; root < count && found < wanted; root++) {
                locate(root);
                found += isExact ? 1 : 0;
            }
            return found;
        }
    }

    /** Reads a text as a polynomial, and finds where it ends to be one. */
    private static final class Reader {
        private static final int MOST_OPEN = 8;
        private static final int MOST_DIGITS = 18;
        private final Desk desk;
        private Text text;
        private int place;
        int error = NONE;
        boolean isTooGreat;
        // A row for each depth of parentheses: sums and products wait there for the factors inside.
        private final long[][] sums = new long[MOST_OPEN + 1][ROW];
        private final long[][] products = new long[MOST_OPEN + 1][ROW];
        private final long[] factor = new long[ROW];

        Reader(Desk desk, Text text) {
            this.desk = desk;
            this.text = text;
        }

        /** Says whether the text has no error; the polynomial is the answer then, if it is not too great. */
        boolean accepts(Text source) {
            text = source;
            place = 0;
            error = NONE;
            isTooGreat = false;
            readSum(0);
            if (error == NONE && place < text.length) {
                error = place;
            }
            return error == NONE;
        }

        long[] answer() {
            return sums[0];
        }

        private static long[] rowAt(long[][] rows, int depth) {
            return rows[depth >= 0 && depth < rows.length ? depth : 0];
        }

        private void readSum(int depth) {
            long[] sum = rowAt(sums, depth);
            clearRow(sum);
            int sign = takes('-') ? -1 : 1;
            for (int i = 0; i <= text.length; i++) {
                readProduct(depth);
                if (error != NONE) {
                    return;
                }
                check(sumRows(sum, rowAt(products, depth), sign, sum), sum);
                boolean isPlus = takes('+');
                if (!isPlus && !takes('-')) {
                    return;
                }
                sign = isPlus ? 1 : -1;
            }
        }

        private void readProduct(int depth) {
            long[] product = rowAt(products, depth);
            clearRow(product);
            product[0] = 1;
            for (int i = 0; i <= text.length; i++) {
                int exponent = readFactor(depth);
                if (error != NONE) {
                    return;
                }
                if (exponent != NONE) {
                    check(desk.raise(factor, exponent, factor), factor);
                }
                check(desk.multiplyRows(product, factor, product), product);
                if (!takes('*')) {
                    return;
                }
            }
        }

        /** What is too great is 0 from then on: only errors in the text are looked for then. */
        private void check(boolean isFitting, long[] row) {
            if (!isFitting) {
                isTooGreat = true;
                clearRow(row);
            }
        }

        /** Leaves a number, x or a sum in parentheses as the factor, and returns the exponent behind it, or NONE. */
        private int readFactor(int depth) {
            clearRow(factor);
            skipBlanks();
            if (isDigit(text.at(place))) {
                factor[0] = readNumber();
            } else if (takes('x')) {
                factor[1] = 1;
            } else if (depth < MOST_OPEN && takes('(')) {
                readSum(depth + 1);
                if (error == NONE && !takes(')')) {
                    error = place;
                }
                copyRow(rowAt(sums, depth + 1), factor);
            } else {
                error = place;
            }
            return error == NONE && takes('^') ? readExponent() : NONE;
        }

        private int readExponent() {
            skipBlanks();
            int start = place;
            if (!isDigit(text.at(place))) {
                error = place;
                return NONE;
            }
            long exponent = readNumber();
            if (exponent > HIGHEST) {
                error = start;
                return NONE;
            }
            return (int) exponent;
        }

        private long readNumber() {
            int start = place;
            long number = 0;
            for (int i = 0; i < text.length && isDigit(text.at(place)); i++) {
                number = number * 10 + text.at(place) - '0';
                place++;
            }
            if (place - start > MOST_DIGITS) {
                error = start;
                return 0;
            }
            return number;
        }

        private static boolean isDigit(int sign) {
            return sign >= '0' && sign <= '9';
        }

        private void skipBlanks() {
            for (int i = 0; i < text.length && text.at(place) == ' '; i++) {
                place++;
            }
        }

        private boolean takes(char token) {
            skipBlanks();
            if (text.at(place) != token) {
                return false;
            }
            place++;
            return true;
        }
    }
}
