import java.lang.reflect.Constructor;
import java.lang.reflect.Field;
import java.lang.reflect.Method;
import java.math.BigInteger;

/** The whole numbers inside, with limbs at their ends: what ordinary polynomials hardly ever bring up. */
public final class WideTest {
    private static final int BASE = 1_000_000_000;
    private static final int[] LIMBS = {0, 0, 1, 2, BASE / 2 - 1, BASE / 2, BASE - 2, BASE - 1, BASE - 1};
    private static final BigInteger BIG = BigInteger.valueOf(BASE);
    private static final int MOST = 60;

    private static final Class<?> WIDE = inner("Wide");
    private static final Class<?> DIVISOR = inner("Divisor");
    private static final Object[] ROOM = new Object[5];
    private static long seed = 7;

    public static void main(String[] args) throws ReflectiveOperationException {
        for (int i = 0; i < ROOM.length; i++) {
            ROOM[i] = made(WIDE, 2 * MOST);
        }
        Object divisor = made(DIVISOR, MOST);
        int wrong = 0;
        for (int i = 0; i < 60000 && wrong == 0; i++) {
            wrong += sums() + products() + quotients(divisor);
        }
        int found = wrong;
        Check.due("the whole numbers", 0, () -> found);
        longOnes();
        Check.end();
    }

    private static Class<?> inner(String name) {
        for (Class<?> c : PolyRegisters.class.getDeclaredClasses()) {
            if (c.getSimpleName().equals(name)) {
                return c;
            }
        }
        throw new AssertionError(name);
    }

    private static Object made(Class<?> kind, int most) throws ReflectiveOperationException {
        Constructor<?> constructor = kind.getDeclaredConstructor(int.class);
        constructor.setAccessible(true);
        return constructor.newInstance(most);
    }

    private static Object call(Object on, String name, Object... args) throws ReflectiveOperationException {
        for (Method m : on.getClass().getDeclaredMethods()) {
            if (m.getName().equals(name)) {
                m.setAccessible(true);
                return m.invoke(on, args);
            }
        }
        throw new AssertionError(name);
    }

    private static Field field(String name) throws ReflectiveOperationException {
        Field f = WIDE.getDeclaredField(name);
        f.setAccessible(true);
        return f;
    }

    private static int any(int bound) {
        seed = seed * 6364136223846793005L + 1442695040888963407L;
        return (int) ((seed >>> 33) % bound);
    }

    private static BigInteger any(int mostLimbs, boolean isPattern) {
        BigInteger sum = BigInteger.ZERO;
        for (int i = any(mostLimbs + 1); i > 0; i--) {
            int limb = isPattern ? LIMBS[any(LIMBS.length)] : any(BASE);
            sum = sum.multiply(BIG).add(BigInteger.valueOf(limb));
        }
        return any(2) == 0 ? sum : sum.negate();
    }

    private static Object put(int place, BigInteger number) throws ReflectiveOperationException {
        Object wide = ROOM[place];
        int[] limbs = (int[]) field("limbs").get(wide);
        BigInteger rest = number.abs();
        int size = 0;
        for (; rest.signum() != 0; size++) {
            limbs[size] = rest.mod(BIG).intValue();
            rest = rest.divide(BIG);
        }
        for (int i = size; i < limbs.length; i++) {
            limbs[i] = BASE - 1;
        }
        field("size").setInt(wide, size);
        field("sign").setInt(wide, number.signum());
        return wide;
    }

    private static BigInteger got(Object wide) throws ReflectiveOperationException {
        int[] limbs = (int[]) field("limbs").get(wide);
        int size = field("size").getInt(wide);
        BigInteger sum = BigInteger.ZERO;
        for (int i = size - 1; i >= 0; i--) {
            if (limbs[i] < 0 || limbs[i] >= BASE || i == size - 1 && limbs[i] == 0) {
                return null;
            }
            sum = sum.multiply(BIG).add(BigInteger.valueOf(limbs[i]));
        }
        int sign = field("sign").getInt(wide);
        return sign != (size == 0 ? 0 : sign < 0 ? -1 : 1) ? null : sign < 0 ? sum.negate() : sum;
    }

    private static int differs(String what, BigInteger want, Object wide) throws ReflectiveOperationException {
        BigInteger found = got(wide);
        if (want.equals(found)) {
            return 0;
        }
        System.out.println(what + " answered " + found + ", due is " + want);
        return 1;
    }

    private static int sums() throws ReflectiveOperationException {
        BigInteger a = any(4, any(3) != 0);
        BigInteger b = any(5) == 0 ? a.negate().add(BigInteger.valueOf(any(3) - 1)) : any(4, any(3) != 0);
        int factor = any(2) * 2 - 1;
        Object sum = put(0, a);
        call(sum, "plus", put(1, b), factor);
        int wrong = differs(a + " plus " + factor + " times " + b, a.add(b.multiply(BigInteger.valueOf(factor))), sum);
        String digits = got(sum).abs().toString();
        int count = (Integer) call(sum, "digitCount");
        int place = any(digits.length());
        int digit = (Integer) call(sum, "digitAt", place);
        long low = (Long) call(sum, "lowBits");
        boolean isRight = count == digits.length() && digit == digits.charAt(count - 1 - place) - '0' && low == got(sum).longValue();
        if (!isRight) {
            System.out.println("digits or bits of " + got(sum));
        }
        return wrong + (isRight ? 0 : 1);
    }

    private static int products() throws ReflectiveOperationException {
        boolean isPattern = any(3) != 0;
        int most = any(10) == 0 ? MOST : 4;
        BigInteger a = any(most, isPattern);
        BigInteger b = any(most, isPattern);
        call(ROOM[2], "setProduct", put(0, a), put(1, b));
        return differs(a + " times " + b, a.multiply(b), ROOM[2]);
    }

    private static int quotients(Object divisor) throws ReflectiveOperationException {
        boolean isPattern = any(4) != 0;
        BigInteger by = any(any(20) == 0 ? 30 : 4, isPattern);
        if (by.signum() == 0) {
            return 0;
        }
        BigInteger quotient = any(4, isPattern);
        BigInteger rest = any(4, isPattern).mod(by.abs());
        BigInteger number = any(3) == 0 ? any(8, isPattern) : quotient.multiply(by).add(any(2) == 0 ? rest : BigInteger.ZERO);
        if (any(3) == 0) {
            number = number.subtract(BigInteger.ONE);
        }
        call(divisor, "prepare", put(0, by));
        call(divisor, "split", put(1, number), ROOM[2]);
        BigInteger[] due = number.divideAndRemainder(by);
        return differs(number + " by " + by, due[0], ROOM[2]) + differs("the rest of " + number + " by " + by, due[1], ROOM[1]);
    }

    private static void longOnes() throws ReflectiveOperationException {
        BigInteger nines = BIG.pow(MOST).subtract(BigInteger.ONE);
        call(ROOM[2], "setProduct", put(0, nines), put(1, nines));
        int wrong = differs("nines times nines", nines.multiply(nines), ROOM[2]);
        for (long number : new long[] {0, 1, -1, BASE, -BASE, Long.MAX_VALUE, Long.MIN_VALUE, 999_999_999_999_999_999L}) {
            call(ROOM[3], "setLong", number);
            wrong += differs("setLong", BigInteger.valueOf(number), ROOM[3]);
        }
        int found = wrong;
        Check.due("long numbers", 0, () -> found);
    }
}
