import java.util.concurrent.Callable;

/** What the tests share: comparing answers, and putting texts in and out. */
final class Check {
    static final String INDEX = "throws IndexOutOfBoundsException";
    static final String ARGUMENT = "throws IllegalArgumentException";
    static final String STATE = "throws IllegalStateException";
    static final String ARITHMETIC = "throws ArithmeticException";
    static final String NO_ELEMENT = "throws NoSuchElementException";

    private static int passed;
    private static int failed;

    private Check() {
    }

    /** The answer as a text; an exception as "throws" and its exact name. */
    static String answer(Callable<?> call) {
        try {
            return String.valueOf(call.call());
        } catch (Exception e) {
            return "throws " + e.getClass().getSimpleName();
        }
    }

    static void due(String what, Object want, Callable<?> call) {
        String got = answer(call);
        if (got.equals(String.valueOf(want))) {
            passed++;
        } else {
            failed++;
            System.out.println(what + " answered " + got + ", due is " + want);
        }
    }

    static void end() {
        System.out.println(passed + " passed, " + failed + " failed");
        System.exit(failed == 0 && passed > 0 ? 0 : 1);
    }

    static int put(PolyRegisters x, String text) {
        int length = 0;
        for (int i = 0; i == 0 || i < text.length(); i += 20) {
            int[] packed = new int[5];
            for (int j = 0; j < 20 && i + j < text.length(); j++) {
                packed[j / 4] |= (text.charAt(i + j) & 255) << 24 - j % 4 * 8;
            }
            length = x.append(packed[0], packed[1], packed[2], packed[3], packed[4]);
        }
        return length;
    }

    static int bytesIn(int four) {
        int count = 0;
        for (int i = 0; i < 4; i++) {
            count += (four >>> 8 * i & 255) != 0 ? 1 : 0;
        }
        return count;
    }

    static int read(PolyRegisters x, int to, String text) {
        x.clearText();
        put(x, text);
        return x.read(to);
    }

    static String written(PolyRegisters x, int a) {
        StringBuilder text = new StringBuilder();
        int length = x.write(a);
        for (int i = 0; i < length; i++) {
            text.append((char) x.writtenAt(i));
        }
        return text.toString();
    }

    /** The told number by its digits; the sign comes from the lowest bits. */
    static String told(PolyRegisters x, int sign) {
        return (sign < 0 ? "-" : "") + digits(x, false) + "/" + digits(x, true);
    }

    private static String digits(PolyRegisters x, boolean isBottom) {
        StringBuilder text = new StringBuilder();
        for (int i = x.digits(isBottom) - 1; i >= 0; i--) {
            text.append(x.digit(isBottom, i));
        }
        return text.toString();
    }

    /** All that undo() brings back, as one text. */
    static String state(PolyRegisters x) {
        StringBuilder text = new StringBuilder();
        for (int a = 0; a < 6; a++) {
            text.append(written(x, a)).append("; ");
        }
        return text.append(x.pointCount()).append(" points").toString();
    }
}
