/** Section 7, and promises 14 and 41 to 45: the buffer, reading and writing. */
public final class TextsTest {
    private static final String NINES = Twins.NINES;
    private static final String SIGNS = "1x+-*^() ";
    private static final int TEXTS_OF_ONE_OBJECT = 60;

    private static PolyRegisters shared;
    private static int texts;

    public static void main(String[] args) {
        bytes();
        appendOrder();
        bufferBounds();
        shortTexts();
        everyByte();
        order();
        numbers();
        exponents();
        blanks();
        parentheses();
        degreeBounds();
        digitBounds();
        errorsBeforeBounds();
        longTexts();
        errorPositions();
        emptied();
        written();
        writtenPlaces();
        readAgain();
        Check.end();
    }

    /** An object that was not called too often: the document tells nothing beyond the 512th call. */
    private static PolyRegisters object() {
        if (texts++ % TEXTS_OF_ONE_OBJECT == 0) {
            shared = new PolyRegisters();
        }
        return shared;
    }

    private static void read(String text, String polynomial) {
        PolyRegisters x = new PolyRegisters();
        Check.put(x, text);
        Check.due("14: read \"" + text + "\" is taken", false, () -> Check.answer(() -> x.read(3)).startsWith("throws"));
        Check.due("43: no error in \"" + text + "\"", PolyRegisters.NONE, x::errorPosition);
        Check.due("14: result of \"" + text + "\"", polynomial, () -> Check.written(x, 3));
        Check.due("14: the buffer after \"" + text + "\"", 0, x::clearText);
    }

    private static void wrong(String text, int position) {
        PolyRegisters x = new PolyRegisters();
        Check.put(x, text);
        Check.due("14: read \"" + text + "\"", Check.ARGUMENT, () -> x.read(0));
        Check.due("43: error position of \"" + text + "\"", position, x::errorPosition);
        Check.due("14: \"" + text + "\" changes nothing", "x^2 - 2", () -> Check.written(x, 0));
        Check.due("14: the buffer after \"" + text + "\"", 0, x::clearText);
    }

    private static void tooGreat(String text) {
        PolyRegisters x = new PolyRegisters();
        Check.put(x, text);
        Check.due("14: read \"" + text + "\"", Check.STATE, () -> x.read(0));
        Check.due("43: no error in \"" + text + "\"", PolyRegisters.NONE, x::errorPosition);
        Check.due("14: \"" + text + "\" changes nothing", "x^2 - 2", () -> Check.written(x, 0));
        Check.due("14: the buffer after \"" + text + "\"", 0, x::clearText);
    }

    /** "Bytes that are 0 are left out", at each of the twenty places; all others are not. */
    private static void bytes() {
        for (int place = 0; place < 20; place++) {
            for (int value : new int[] {1, 'x', 127, 128, 255}) {
                int[] w = new int[5];
                w[place / 4] = value << 24 - place % 4 * 8;
                PolyRegisters x = new PolyRegisters();
                String what = "41: " + value + " at " + place;
                Check.due(what, 1, () -> x.append(w[0], w[1], w[2], w[3], w[4]));
                Check.due(what + ", again", 2, () -> x.append(w[0], w[1], w[2], w[3], w[4]));
                Check.due(what + ", cleared", 2, x::clearText);
                x.append(w[0], w[1], w[2], w[3], w[4]);
                Check.due(what + ", read", value == 'x' ? "1" : Check.ARGUMENT, () -> x.read(4));
            }
        }
        for (int left = 0; left < 1 << 20; left += 4099) {
            int[] w = new int[5];
            int count = 0;
            for (int place = 0; place < 20; place++) {
                if ((left >> place & 1) != 0) {
                    w[place / 4] |= 0x20 << 24 - place % 4 * 8;
                    count++;
                }
            }
            PolyRegisters x = new PolyRegisters();
            Check.due("41: only those that are not 0", count, () -> x.append(w[0], w[1], w[2], w[3], w[4]));
        }
    }

    /** "The most significant byte first, in the order of the parameters." */
    private static void appendOrder() {
        String digits = "123456789123456789";
        for (int from = 0; from <= 2; from++) {
            int[] w = new int[5];
            for (int i = 0; i < 18; i++) {
                w[(from + i) / 4] |= digits.charAt(i) << 24 - (from + i) % 4 * 8;
            }
            PolyRegisters x = new PolyRegisters();
            Check.due("41: in order", 18, () -> x.append(w[0], w[1], w[2], w[3], w[4]));
            Check.due("41: read in order", 0, () -> x.read(3));
            Check.due("41: read in order", digits, () -> Check.written(x, 3));
        }
        PolyRegisters x = new PolyRegisters();
        Check.due("41: first call", 1, () -> x.append(0, 0, 0, 0, '7'));
        Check.due("41: behind it", 2, () -> x.append('*' << 24, 0, 0, 0, 0));
        Check.due("41: and behind that", 3, () -> x.append(0, 'x' << 8, 0, 0, 0));
        x.read(3);
        Check.due("41: calls in order", "7*x", () -> Check.written(x, 3));
    }

    private static void bufferBounds() {
        for (int before = 178; before <= 200; before++) {
            for (int more : new int[] {0, 1, 2, 19, 20}) {
                PolyRegisters x = new PolyRegisters();
                Check.put(x, " ".repeat(before));
                int[] w = new int[5];
                for (int i = 0; i < more; i++) {
                    w[i / 4] |= 'x' << 24 - i % 4 * 8;
                }
                String what = "41: " + more + " behind " + before;
                int kept = before + more > 200 ? before : before + more;
                Check.due(what, before + more > 200 ? Check.STATE : "" + kept, () -> x.append(w[0], w[1], w[2], w[3], w[4]));
                Check.due(what + ": clearText", kept, x::clearText);
                Check.due(what + ": empty then", 0, x::clearText);
                Check.due(what + ": room again", 1, () -> x.append(0, 0, 0, 0, 'x'));
            }
        }
    }

    /** All texts of up to five signs of the grammar, compared with the model's reading. */
    private static void shortTexts() {
        for (int length = 0; length <= 5; length++) {
            int all = 1;
            for (int i = 0; i < length; i++) {
                all *= SIGNS.length();
            }
            for (int number = 0; number < all; number++) {
                StringBuilder text = new StringBuilder();
                int rest = number;
                for (int i = 0; i < length; i++) {
                    text.append(SIGNS.charAt(rest % SIGNS.length()));
                    rest /= SIGNS.length();
                }
                asModel(text.toString());
            }
        }
    }

    private static void asModel(String text) {
        PolyRegisters x = object();
        Model model = new Model();
        int[] w = new int[5];
        for (int i = 0; i < text.length(); i++) {
            w[i / 4] |= (text.charAt(i) & 255) << 24 - i % 4 * 8;
        }
        Check.due("41: append \"" + text + "\"", text.length(), () -> x.append(w[0], w[1], w[2], w[3], w[4]));
        model.append(w[0], w[1], w[2], w[3], w[4]);
        String due = Check.answer(() -> model.read(3));
        Check.due("14: read \"" + text + "\"", due, () -> x.read(3));
        Check.due("43: error position of \"" + text + "\"", model.errorPosition(), x::errorPosition);
        if (!due.startsWith("throws")) {
            model.value(3, 17, 1);
            x.value(3, 17, 1);
            Check.due("14: result of \"" + text + "\"", model.low(false), () -> x.low(false));
        }
    }

    /** "No token begins there": all bytes alone, behind x, and ahead of x. */
    private static void everyByte() {
        for (int one = 1; one < 256; one++) {
            asModel("" + (char) one);
            asModel("x" + (char) one);
            asModel((char) one + "x");
            asModel("1" + (char) one + "2");
            asModel("x^" + (char) one);
            boolean isSign = one == ' ' || one == 'x' || one >= '(' && one <= '+' || one == '-' || one == '^' || one >= '0' && one <= '9';
            if (!isSign) {
                wrong("x" + (char) one, 1);
                wrong((char) one + "", 0);
                wrong(" x + 2 " + (char) one + " 3", 7);
                wrong("12" + (char) one, 2);
            }
        }
    }

    private static void order() {
        read("2-3-4", "-5");
        read("2-3+4", "3");
        read("-2-3", "-5");
        read("-2+3", "1");
        read("-2*3+4", "-2");
        read("-x^2", "-x^2");
        read("-2^4", "-16");
        read("(-2)^4", "16");
        read("(-x)^3", "-x^3");
        read("2*x^3", "2*x^3");
        read("2^3*x", "8*x");
        read("2*3^2", "18");
        read("x*x*x+x*x", "x^3 + x^2");
        read("x-x*x", "-x^2 + x");
        read("(x-1)*(x+1)", "x^2 - 1");
        read("3-(x-1)-(-(x))", "4");
        read("-(x-1)", "-x + 1");
        read("-(-(-(1)))", "-1");
        read("(x+1)^2*2", "2*x^2 + 4*x + 2");
        read("2-(3-4*(5-6))^1", "-5");
        read("1+2*x+3*x^2+4*x^3+5*x^4+6*x^5+7*x^6+8*x^7+9*x^8+10*x^9+11*x^10+12*x^11+13*x^12",
            "13*x^12 + 12*x^11 + 11*x^10 + 10*x^9 + 9*x^8 + 8*x^7 + 7*x^6 + 6*x^5 + 5*x^4 + 4*x^3 + 3*x^2 + 2*x + 1");
    }

    /** "A number has at most 18 digits, zeros ahead included." */
    private static void numbers() {
        read("0", "0");
        read("00", "0");
        read("007", "7");
        for (int digits = 1; digits <= 18; digits++) {
            read(NINES.substring(0, digits), NINES.substring(0, digits));
            read("0".repeat(digits), "0");
            read("0".repeat(digits - 1) + "8*x", "8*x");
            read("-1" + "0".repeat(digits - 1), "-1" + "0".repeat(digits - 1));
        }
        for (String number : new String[] {"9999999999999999999", "0000000000000000000", "0000000000000000001", "1000000000000000000",
            "00000000000000000000000000000000000000000", "18446744073709551617", "99999999999999999999999999999999999999999999999999"}) {
            wrong(number, 0);
            wrong("-" + number, 1);
            wrong("x + " + number, 4);
            wrong("x*" + number + "+1", 2);
            wrong("( " + number + ")", 2);
            wrong("x^" + number, 2);
            wrong(number + "^0", 0);
        }
        wrong("1 2", 2);
        wrong("1 000", 2);
        wrong("12x", 2);
        wrong("12(x)", 2);
        wrong("x12", 1);
    }

    /** "One behind ^ is at most 12." */
    private static void exponents() {
        for (int e = 0; e <= 12; e++) {
            String power = e == 0 ? "1" : e == 1 ? "x" : "x^" + e;
            read("x^" + e, power);
            read("x^0" + e, power);
            read("x^" + "0".repeat(e < 10 ? 17 : 16) + e, power);
            read("1^" + e, "1");
            read("0^" + e, e == 0 ? "1" : "0");
            read("(x-x)^" + e, e == 0 ? "1" : "0");
        }
        for (String e : new String[] {"13", "14", "20", "99", "013", "112", "120", "121", "1000000000000", "4294967296", "4294967297",
            "999999999999999999", "000000000000000013"}) {
            wrong("x^" + e, 2);
            wrong("0 ^  " + e, 5);
            wrong("1+(2)^" + e + ")", 6);
        }
        wrong("x^000000000000000000" + "1", 2);
        wrong("x^-1", 2);
        wrong("x^x", 2);
        wrong("x^(1)", 2);
        wrong("x^ + 1", 3);
        wrong("x^", 2);
        wrong("x^  ", 4);
        wrong("x^1^1", 3);
        wrong("^2", 0);
        wrong("2*^2", 2);
        wrong("-^2", 1);
    }

    /** "Blanks (the byte 32) may stand ahead of, between and behind tokens." */
    private static void blanks() {
        read("   x", "x");
        read("x   ", "x");
        read(" ( x  +  1 ) ^ 2  *  3  -  4 ", "3*x^2 + 6*x - 1");
        read(" - x ", "-x");
        read("x ^ 2", "x^2");
        read("x ^2", "x^2");
        read("x^ 2", "x^2");
        read("( x )", "x");
        wrong(" ", 1);
        wrong("\t", 0);
        wrong("x\n", 1);
        wrong("x +\u00a01", 3);
        wrong("x ^ 1 2", 6);
        wrong("   )", 3);
        wrong("x    x", 5);
        wrong("x +   ", 6);
        wrong("(  x  ", 6);
    }

    /** "At most 8 parentheses can be open." */
    private static void parentheses() {
        for (int open = 1; open <= 12; open++) {
            String text = "(".repeat(open) + "x" + ")".repeat(open);
            if (open <= 8) {
                read(text, "x");
                wrong("(".repeat(open) + "x" + ")".repeat(open - 1), 2 * open);
                wrong("(".repeat(open), open);
                wrong(text + ")", 2 * open + 1);
            } else {
                wrong(text, 8);
                wrong("(".repeat(open), 8);
                wrong("2*" + " (".repeat(open), 19);
            }
        }
        read("(x)*(x)*(x)*(x)*(x)*(x)*(x)*(x)*(x)*(x)*(x)*(x)", "x^12");
        read("(1)+(1)+(1)+(1)+(1)+(1)+(1)+(1)+(1)+(1)", "10");
        read("((((((((1))))))))+((((((((1))))))))", "2");
        read("(((((((1*(1)*(x)" + ")".repeat(7), "x");
        read("1-(2-(3-(4-(5-(6-(7-(8-(9-x))))))))", "-x + 5");
        wrong("((((((((1))))))))+(((((((((1)))))))))", 26);
        wrong("(((((((1*(1)*(x*(x)))))))))", 16);
        wrong("()", 1);
        wrong("( )", 2);
        wrong("(", 1);
        wrong(")", 0);
        wrong("(x))", 3);
        wrong("(x+)", 3);
        wrong("(x)(x)", 3);
        wrong("x(x)", 1);
        wrong("(x", 2);
        wrong("(x*", 3);
        wrong("(x 1)", 3);
    }

    /** "A power, a product or a sum in it has a degree above 12." */
    private static void degreeBounds() {
        String[] all = {"(x^2)^7", "(x^3)^5", "(x^12)^2", "(x^12)^12", "x^12*x", "x*x^12", "x^6*x^7", "x^7*x*x*x*x*x*x",
            "(x^6+1)*(x^7-1)", "(x+1)^12*(x-1)", "((x^5)^2)^2", "(x^4*x^4)^2"};
        for (String text : all) {
            tooGreat(text);
            tooGreat(text + "*0");
            tooGreat("0*(" + text + ")");
            tooGreat("(" + text + ")^0");
            tooGreat("(" + text + ")^0*0");
            tooGreat("1 + " + text);
            tooGreat("1 - " + text + " + " + text);
            tooGreat("-" + text);
            tooGreat("2*((1 - " + text + "))");
            tooGreat("2 - " + text + " - (x^2)^7*0");
        }
        read("(x^2)^6", "x^12");
        read("(x^12)^1", "x^12");
        read("(x^12)^0", "1");
        read("x^12*1", "x^12");
        read("0*x^12*x", "0");
        read("(x^6+1)*(x^6-1)", "x^12 - 1");
        read("(x^3)^4 - x^6*x^6", "0");
        read("0^12", "0");
        read("(0*x^12)*(x^12+1)", "0");
        tooGreat("x^12*0 + x^12*x*0");
        read("x^12*0*x", "0");
    }

    /** "Or a coefficient of more than 18 digits (the value of each power, of each product of first factors, of each sum of first products)". */
    private static void digitBounds() {
        String[] all = {"10^12*10^6", "1000000^3", "(1000000000*x+1)^2", "1000000000*1000000000", "999999999*1000000002",
            NINES + "+1", NINES + "*x+x", "(-" + NINES + "-1)", "(-" + NINES + "*x^2-x^2)", "(x-1000000)^3", NINES + "*2", "(-2)*" + NINES,
            "32^12", "(" + NINES + "+1-1)", "(1-1-" + NINES + "-1+1)", NINES + "*2-" + NINES, "500000000000000000*x+500000000000000000*x"};
        for (String text : all) {
            tooGreat(text);
            tooGreat(text.startsWith("(") ? text + "*0" : "(" + text + ")*0");
            tooGreat("0*(" + text + ")");
            tooGreat("(" + text + ")^0");
            tooGreat("1 - (" + text + ") + (" + text + ")");
            tooGreat("((2 + ((" + text + "))))");
        }
        tooGreat("10^12*10^6*0");
        read("0*10^12*10^6", "0");
        tooGreat("1+" + NINES + "-1");
        read("-1+" + NINES + "+1", NINES);
        read(NINES + "-1+1", NINES);
        read("-" + NINES, "-" + NINES);
        read("-" + NINES + "+1-1", "-" + NINES);
        read("999999999*1000000001", NINES);
        read("31^12", "787662783788549761");
        read("10^12*10^5", "100000000000000000");
        read("(-" + NINES + ")*(x-1)", "-" + NINES + "*x + " + NINES);
        // Sums inside of this product are longer than a long, and cancel out.
        read("40000000000000000*(x+1)^6*(1-x)^6", "40000000000000000*x^12 - 240000000000000000*x^10 + 600000000000000000*x^8"
            + " - 800000000000000000*x^6 + 600000000000000000*x^4 - 240000000000000000*x^2 + 40000000000000000");
    }

    private static void errorsBeforeBounds() {
        wrong("x^12*x+", 7);
        wrong("1000000^3 )", 10);
        wrong("(x^12*x*(", 9);
        wrong("x^12*x^13", 7);
        wrong(NINES + "+1 1", 21);
        wrong("x^12*x^2 y", 9);
        wrong("(x^2)^7^2", 7);
    }

    private static void longTexts() {
        read(" " + "1+".repeat(99) + "1", "100");
        read("1-".repeat(99) + "x ", "-x - 97");
        read("1*".repeat(99) + "x ", "x");
        read(" ".repeat(199) + "x", "x");
        read("x" + " ".repeat(199), "x");
        read(" ".repeat(100) + "x" + " ".repeat(99), "x");
        wrong("1+".repeat(100), 200);
        wrong("1*".repeat(100), 200);
        wrong(" ".repeat(200), 200);
        wrong(" ".repeat(199) + "+", 199);
        wrong(" ".repeat(199) + "-", 200);
        wrong(" ".repeat(198) + "x)", 199);
        wrong("0".repeat(200), 0);
        wrong("(".repeat(200), 8);
        wrong("x^" + "1".repeat(198), 2);
        wrong("1+".repeat(90) + "1000000000000000000", 180);
    }

    /** "Returns the error position of the latest read() for a register that is there." */
    private static void errorPositions() {
        PolyRegisters x = new PolyRegisters();
        Check.due("43: no such call", PolyRegisters.NONE, x::errorPosition);
        Check.due("14: no register", Check.INDEX, () -> x.read(6));
        Check.due("43: still no such call", PolyRegisters.NONE, x::errorPosition);
        Check.due("14: empty", Check.ARGUMENT, () -> x.read(0));
        Check.due("43: the length of the text", 0, x::errorPosition);
        Check.due("14: error", Check.ARGUMENT, () -> Check.read(x, 0, "x + * 2"));
        Check.due("43: error", 4, x::errorPosition);
        Check.put(x, "x^2");
        Check.due("43: append leaves it", 4, x::errorPosition);
        Check.due("14: no register", Check.INDEX, () -> x.read(-1));
        Check.due("43: no register leaves it", 4, x::errorPosition);
        x.clearText();
        x.undo();
        x.write(0);
        Check.due("48: no errors", 0, x::errors);
        Check.due("43: other calls leave it", 4, x::errorPosition);
        Check.due("14: no error", 2, () -> Check.read(x, 3, "x^2"));
        Check.due("43: no error", PolyRegisters.NONE, x::errorPosition);
        Check.due("14: error", Check.ARGUMENT, () -> Check.read(x, 0, "x x"));
        Check.due("43: error again", 2, x::errorPosition);
        Check.due("14: too great", Check.STATE, () -> Check.read(x, 0, "x^12*x"));
        Check.due("43: too great is no error", PolyRegisters.NONE, x::errorPosition);
        Check.due("18: the read is undone", 0, x::undo);
        Check.due("43: undo leaves it", PolyRegisters.NONE, x::errorPosition);
    }

    /** "Reads the buffer as a polynomial, and empties it, also if the text is not taken." */
    private static void emptied() {
        String[] all = {"x", "x+", "x^12*x", "", "   "};
        for (String text : all) {
            PolyRegisters x = new PolyRegisters();
            Check.put(x, text);
            Check.answer(() -> x.read(3));
            Check.due("14: read again after \"" + text + "\"", Check.ARGUMENT, () -> x.read(3));
            Check.due("43: an empty text after \"" + text + "\"", 0, x::errorPosition);
            Check.due("41: from the start after \"" + text + "\"", 1, () -> x.append(0, 0, 0, 0, '5'));
            Check.due("14: a new text after \"" + text + "\"", 0, () -> x.read(3));
            Check.due("14: its value after \"" + text + "\"", "5", () -> Check.written(x, 3));
            Check.put(x, "x^2");
            Check.due("14: no register", Check.INDEX, () -> x.read(6));
            Check.due("14: no register leaves the buffer", 3, x::clearText);
        }
    }

    private static void isWritten(PolyRegisters x, int a, String due) {
        Check.due("44: length of " + due, due.length(), () -> x.write(a));
        Check.due("45: " + due, due + Check.INDEX, () -> Twins.writtenNow(x));
    }

    /** All signs of coefficients, also 1 and -1, as the first term and behind it, for the exponents 12, 2, 1 and 0. */
    private static void written() {
        int[] exponents = {12, 2, 1, 0};
        String[] powers = {"x^12", "x^2", "x", ""};
        long[] coefficients = {0, 1, -1, 2, -2, 10, -10, 999_999_999_999_999_999L, -999_999_999_999_999_999L};
        for (int number = 0; number < 9 * 9 * 9 * 9; number++) {
            PolyRegisters x = new PolyRegisters();
            StringBuilder due = new StringBuilder();
            int rest = number;
            for (int i = 0; i < 4; i++) {
                long c = coefficients[rest % 9];
                rest /= 9;
                x.setTerm(3, exponents[i], c);
                if (c != 0) {
                    due.append(due.length() == 0 ? c < 0 ? "-" : "" : c < 0 ? " - " : " + ");
                    String size = "" + Math.abs(c);
                    due.append(powers[i].isEmpty() ? size : size.equals("1") ? powers[i] : size + "*" + powers[i]);
                }
            }
            isWritten(x, 3, due.length() == 0 ? "0" : due.toString());
        }
        for (int e = 0; e <= 12; e++) {
            for (int digits = 1; digits <= 18; digits++) {
                PolyRegisters x = new PolyRegisters();
                String size = "1" + "0".repeat(digits - 1);
                x.setTerm(5, e, Long.parseLong(size));
                x.setTerm(4, e, -Long.parseLong(NINES.substring(0, digits)));
                String power = e == 0 ? "" : e == 1 ? "x" : "x^" + e;
                isWritten(x, 5, e == 0 ? size : digits == 1 ? power : size + "*" + power);
                isWritten(x, 4, "-" + NINES.substring(0, digits) + (e == 0 ? "" : "*" + power));
            }
        }
    }

    /** "A byte of the text that was written last", which stands "in place of the text that was written before". */
    private static void writtenPlaces() {
        PolyRegisters x = new PolyRegisters();
        for (int index : new int[] {-1, 0, 1, 6, Integer.MIN_VALUE, Integer.MAX_VALUE}) {
            Check.due("45: nothing was written", Check.INDEX, () -> x.writtenAt(index));
        }
        Check.due("44: no register", Check.INDEX, () -> x.write(6));
        Check.due("45: still nothing", Check.INDEX, () -> x.writtenAt(0));
        int[] order = {3, 2, 0, 1, 3, 1, 0, 2, 2, 4};
        String[] texts = {"x^2 - 2", "x^3 - x", "6*x^2 - 5*x + 1", "0", "0"};
        for (int a : order) {
            isWritten(x, a, texts[a]);
            Check.due("45: ahead", Check.INDEX, () -> x.writtenAt(-1));
            Check.due("45: first byte", (int) texts[a].charAt(0), () -> x.writtenAt(0));
            Check.due("45: last byte", (int) texts[a].charAt(texts[a].length() - 1), () -> x.writtenAt(texts[a].length() - 1));
        }
        x.write(0);
        x.setTerm(0, 5, 7);
        Check.due("45: as it was written, not as it is", "x^2 - 2" + Check.INDEX, () -> Twins.writtenNow(x));
        x.undo();
        Check.due("48: no errors", 0, x::errors);
        Check.due("45: also behind other calls", "x^2 - 2" + Check.INDEX, () -> Twins.writtenNow(x));
        longestText();
    }

    private static void longestText() {
        PolyRegisters x = new PolyRegisters();
        StringBuilder due = new StringBuilder();
        for (int e = 12; e >= 0; e--) {
            x.setTerm(3, e, -999_999_999_999_999_999L);
            due.append(e == 12 ? "-" : " - ").append(NINES).append(e == 0 ? "" : e == 1 ? "*x" : "*x^" + e);
        }
        Check.due("44: longest", due.length(), () -> x.write(3));
        Check.due("45: behind the longest", Check.INDEX, () -> x.writtenAt(due.length()));
        for (int i = 0; i < due.length(); i++) {
            int index = i;
            Check.due("45: longest, " + i, (int) due.charAt(i), () -> x.writtenAt(index));
        }
        Check.due("48: longest", 0, x::errors);
    }

    /** What is written can be read, blanks and all. */
    private static void readAgain() {
        String[] all = {"0", "1", "-1", "x", "-x", "x^12 - x^11 + x - 1", "-12*x^12 + 100*x^2 - 7*x", "-" + NINES + "*x^12 - " + NINES,
            "x^12 + 2*x^11 + 3*x^10 + 4*x^9 + 5*x^8 + 6*x^7 + 7*x^6 + 8*x^5 + 9*x^4 + 10*x^3 + 11*x^2 + 12*x + 13"};
        for (String text : all) {
            read(text, text);
        }
    }
}
