import java.util.ArrayList;
import java.util.List;
import java.util.Map;

/** Section 8: what is a change, what can be undone, what belongs to the state; and the same register several times. */
public final class StateTest {
    private static final Map<String, String> DUE = Twins.all(Twins.rich(5));

    public static void main(String[] args) {
        changes();
        changesOfNothing();
        noChanges();
        sameRegisters();
        for (int count = 0; count <= 20; count++) {
            undoAfter(count);
        }
        noRedo();
        upAndDown();
        pointsComeBack();
        Check.end();
    }

    /** A change can be undone by one undo(), which brings back all of the state and leaves all else. */
    private static void isChange(String what, Twins.Call call, String... but) {
        PolyRegisters x = Twins.rich(5);
        Check.due(what + " is taken", false, () -> Check.answer(() -> call.of(x)).startsWith("throws"));
        Check.due(what + " is one change", Twins.DEPTH, x::undo);
        Twins.same(what + ", undone,", DUE, x, but);
    }

    private static void changes() {
        isChange("2: add", x -> x.add(3, 0, 2));
        isChange("3: subtract", x -> x.subtract(2, 0, 5));
        isChange("4: multiply", x -> x.multiply(0, 0, 5));
        isChange("5: power", x -> x.power(5, 2, 3));
        isChange("6: derive", x -> x.derive(0, 2));
        isChange("7: substitute", x -> x.substitute(2, 2, 5));
        isChange("8: divide", x -> x.divide(4, 5, 2, 0));
        isChange("9: gcd", x -> x.gcd(1, 1, 4));
        isChange("10: primitive", x -> x.primitive(1, 1));
        isChange("11: simple", x -> x.simple(4, 2));
        isChange("12: residue", x -> x.residue(4, 4, 97));
        isChange("13: setTerm", x -> x.setTerm(4, 12, 1));
        isChange("14: read", x -> {
            x.clearText();
            return Check.read(x, 4, "x^7") + x.append('x' << 24, '^' << 24, '3' << 24, '+' << 24, '5' << 24);
        }, "error position");
        isChange("15: addPoint", x -> x.addPoint(9, 9));
        isChange("16: clearPoints", PolyRegisters::clearPoints);
        isChange("17: interpolate", x -> x.interpolate(1));
    }

    /** "The calls that are listed are changes if they throw no exception": also if all stays as it is. */
    private static void changesOfNothing() {
        isChange("2: add 0", x -> x.add(0, 0, 3));
        isChange("2: add 0 and 0", x -> x.add(3, 3, 3));
        isChange("3: subtract 0", x -> x.subtract(4, 4, 3));
        isChange("4: multiply by 0", x -> x.multiply(3, 0, 3));
        isChange("5: power 1", x -> x.power(4, 4, 1));
        isChange("6: derive 0", x -> x.derive(3, 3));
        isChange("7: substitute in 0", x -> x.substitute(3, 3, 4));
        isChange("8: divide by a longer one", x -> x.divide(3, 2, 2, 4));
        isChange("9: gcd with itself", x -> x.gcd(0, 0, 0));
        isChange("9: gcd of 0 and 0", x -> x.gcd(3, 3, 3));
        isChange("10: primitive already", x -> x.primitive(2, 2));
        isChange("10: primitive of 0", x -> x.primitive(3, 3));
        isChange("11: simple already", x -> x.simple(0, 0));
        isChange("12: residue of 0", x -> x.residue(3, 3, 2));
        isChange("12: residue already", x -> x.residue(5, 5, 2));
        isChange("13: setTerm 0 where there is none", x -> x.setTerm(0, 12, 0));
        isChange("13: setTerm as it is", x -> x.setTerm(0, 0, -2));
        isChange("14: read as it is", x -> {
            x.clearText();
            return Check.read(x, 5, "x^2+1") + x.append('x' << 24, '^' << 24, '3' << 24, '+' << 24, '5' << 24);
        }, "error position");
        PolyRegisters x = new PolyRegisters();
        Check.due("16: clearPoints without points", 0, x::clearPoints);
        Check.due("17: interpolate without points", 1L, () -> x.interpolate(3));
        Check.due("16, 17: both are changes", 1, x::undo);
        Check.due("16, 17: both are changes", 0, x::undo);
        Check.due("16, 17: and no more", PolyRegisters.NONE, x::undo);
    }

    private static void isNoChange(String what, Twins.Call call, String... but) {
        PolyRegisters x = Twins.rich(5);
        Check.due(what + " is taken", false, () -> Check.answer(() -> call.of(x)).startsWith("throws"));
        Twins.same(what, DUE, x, but);
    }

    /** All calls that are not listed under "Changes"; those that tell a number, alone, change the told one. */
    private static void noChanges() {
        isNoChange("19: degree", x -> x.degree(4));
        isNoChange("20: terms", x -> x.terms(4));
        isNoChange("21: exponent", x -> x.exponent(4, 1));
        isNoChange("22: coefficient", x -> x.coefficient(4, 12), "told number");
        isNoChange("23: content", x -> x.content(1), "told number");
        isNoChange("24: value", x -> x.value(0, 5, 3), "told number");
        isNoChange("25: divides", x -> x.divides(0, 1));
        isNoChange("26: areSame", x -> x.areSame(0, 1));
        isNoChange("27: agreements", x -> x.agreements(1, 4));
        isNoChange("28: digits", x -> x.digits(true));
        isNoChange("29: digit", x -> x.digit(true, 1));
        isNoChange("30: low", x -> x.low(true));
        isNoChange("31: realRoots", x -> x.realRoots(4));
        isNoChange("32: rootsBetween", x -> x.rootsBetween(0, -3, 2, 3, 2));
        isNoChange("33: sturmLength", x -> x.sturmLength(2));
        isNoChange("34: changes", x -> x.changes(2, 1, 3));
        isNoChange("35: closeIn", x -> x.closeIn(0, 1, 20), "told number");
        isNoChange("36: fractionRoots", x -> x.fractionRoots(2));
        isNoChange("37: fractionRoot", x -> x.fractionRoot(2, 1), "told number");
        isNoChange("38: rootsBy", x -> x.rootsBy(2, 7));
        isNoChange("39: rootBy", x -> x.rootBy(2, 7));
        isNoChange("40: pointCount", PolyRegisters::pointCount);
        isNoChange("41: append", x -> x.append(0, 0, '+', 'x', 0), "buffer", "undo");
        isNoChange("42: clearText", PolyRegisters::clearText, "buffer", "undo");
        isNoChange("43: errorPosition", PolyRegisters::errorPosition);
        isNoChange("44: write", x -> x.write(3), "written text");
        isNoChange("45: writtenAt", x -> x.writtenAt(6));
        isNoChange("46: meanTerms", PolyRegisters::meanTerms);
        isNoChange("47: usedShare", PolyRegisters::usedShare);
        isNoChange("48: errors", PolyRegisters::errors);
        PolyRegisters x = Twins.rich(5);
        x.append(0, 0, '+', 'x', 0);
        x.clearText();
        Check.due("41, 42: no changes", Twins.DEPTH - 1, x::undo);
    }

    /** "Registers of one call may be the same, if nothing else is told; all are looked at before any is changed." */
    private static void sameRegisters() {
        for (int a = 0; a < 6; a++) {
            for (int b = 0; b < 6; b++) {
                for (int to = 0; to < 6; to++) {
                    sameAnswers(to, a, b);
                }
            }
        }
        for (int a = 0; a < 6; a++) {
            for (int b = 0; b < 6; b++) {
                for (int quotient = 0; quotient < 6; quotient++) {
                    for (int remainder = 0; remainder < 6; remainder++) {
                        sameDivision(quotient, remainder, a, b);
                    }
                }
            }
        }
    }

    private static PolyRegisters small() {
        PolyRegisters x = new PolyRegisters();
        x.setTerm(3, 1, 2);
        x.setTerm(3, 0, -1);
        x.setTerm(4, 0, 3);
        return x;
    }

    /** The call for the register to answers as it does for the register 5, when that was no part of it. */
    private static void sameAnswers(int to, int a, int b) {
        for (int kind = 0; kind < 10; kind++) {
            int call = kind;
            PolyRegisters apart = small();
            int target = a == 5 || b == 5 ? to : 5;
            String due = Check.answer(() -> oneOf(apart, call, target, a, b));
            PolyRegisters x = small();
            String what = "8: call " + call + " (" + to + ", " + a + ", " + b + ")";
            Check.due(what, due, () -> oneOf(x, call, to, a, b));
            if (!due.startsWith("throws")) {
                Check.due(what + ": the result", Check.written(apart, target), () -> Check.written(x, to));
            }
            PolyRegisters untouched = small();
            for (int i = 0; i < 6; i++) {
                int other = i;
                if (i != to) {
                    Check.due(what + " leaves " + i, Check.written(untouched, i), () -> Check.written(x, other));
                }
            }
        }
    }

    private static int oneOf(PolyRegisters x, int call, int to, int a, int b) {
        switch (call) {
            case 0: return x.add(to, a, b);
            case 1: return x.subtract(to, a, b);
            case 2: return x.multiply(to, a, b);
            case 3: return x.substitute(to, a, b);
            case 4: return x.gcd(to, a, b);
            case 5: return x.power(to, a, b);
            case 6: return x.derive(to, a);
            case 7: return x.primitive(to, a);
            case 8: return x.simple(to, a);
            default: return x.residue(to, a, 5);
        }
    }

    private static void sameDivision(int quotient, int remainder, int a, int b) {
        PolyRegisters x = small();
        String what = "8: divide(" + quotient + ", " + remainder + ", " + a + ", " + b + ")";
        if (quotient == remainder) {
            Check.due(what, Check.ARGUMENT, () -> x.divide(quotient, remainder, a, b));
            return;
        }
        if (x.degree(b) < 0) {
            Check.due(what, Check.ARITHMETIC, () -> x.divide(quotient, remainder, a, b));
            return;
        }
        Model model = new Model();
        model.setTerm(3, 1, 2);
        model.setTerm(3, 0, -1);
        model.setTerm(4, 0, 3);
        Check.due(what, model.divide(quotient, remainder, a, b), () -> x.divide(quotient, remainder, a, b));
        for (int i = 0; i < 6; i++) {
            int each = i;
            Check.due(what + ": length of " + i, model.write(i), () -> x.write(each));
            Check.due(what + ": register " + i, model.text(), () -> Check.written(x, each));
        }
        Check.due(what + ": one change", 3, x::undo);
        Check.due(what + ": undone", Twins.state(small()), () -> Twins.state(x));
    }

    /** "Up to 8 of the latest changes can be undone, the latest first." */
    private static void undoAfter(int count) {
        PolyRegisters x = new PolyRegisters();
        List<String> states = new ArrayList<>();
        states.add(Twins.state(new PolyRegisters()));
        for (int i = 0; i < count; i++) {
            x.setTerm(i % 6, i % 13, i + 2);
            states.add(Twins.state(after(i + 1)));
        }
        int most = Math.min(count, 8);
        for (int i = 1; i <= most; i++) {
            Check.due("18: undo " + i + " after " + count, most - i, x::undo);
            Check.due("18: state of undo " + i + " after " + count, states.get(count - i), () -> Twins.state(x));
        }
        for (int i = 0; i < 3; i++) {
            Check.due("18: no more after " + count, PolyRegisters.NONE, x::undo);
            Check.due("18: nothing is different after " + count, states.get(count - most), () -> Twins.state(x));
        }
    }

    private static PolyRegisters after(int count) {
        PolyRegisters x = new PolyRegisters();
        for (int i = 0; i < count; i++) {
            x.setTerm(i % 6, i % 13, i + 2);
        }
        return x;
    }

    /** "There is no redo": an undo goes on to the change before, and a change takes the place of what was undone. */
    private static void noRedo() {
        PolyRegisters x = new PolyRegisters();
        x.setTerm(3, 0, 1);
        x.setTerm(3, 0, 2);
        x.setTerm(3, 0, 3);
        Check.due("18: first", 2, x::undo);
        Check.due("18: first, state", "2", () -> Check.written(x, 3));
        x.setTerm(3, 0, 4);
        Check.due("18: the new one", 2, x::undo);
        Check.due("18: the new one, state", "2", () -> Check.written(x, 3));
        Check.due("18: the one before", 1, x::undo);
        Check.due("18: the one before, state", "1", () -> Check.written(x, 3));
        Check.due("18: the first one", 0, x::undo);
        Check.due("18: the first one, state", "0", () -> Check.written(x, 3));
        Check.due("18: none", PolyRegisters.NONE, x::undo);
    }

    /** Changes and undos by turns, so that the places of kept changes go around. */
    private static void upAndDown() {
        PolyRegisters x = new PolyRegisters();
        List<Integer> kept = new ArrayList<>();
        int now = 0;
        int next = 1;
        int[] steps = {3, -1, 5, -4, 9, -3, 2, -9, 1, 1, -1, 8, -8, 12, -5, 7, -2, 4, -10};
        for (int step : steps) {
            for (int i = 0; i < step; i++) {
                kept.add(now);
                if (kept.size() > 8) {
                    kept.remove(0);
                }
                now = next++;
                x.setTerm(5, 0, now);
            }
            for (int i = 0; i > step; i--) {
                int due = kept.size() - 1;
                now = due < 0 ? now : kept.remove(due);
                Check.due("18: undo by turns", due, x::undo);
            }
            Check.due("18: by turns", "" + now, () -> Check.written(x, 5));
        }
    }

    private static void pointsComeBack() {
        PolyRegisters x = new PolyRegisters();
        x.addPoint(1, 2);
        x.addPoint(2, 3);
        x.clearPoints();
        x.addPoint(2, 9);
        Check.due("18: addPoint undone", 3, x::undo);
        Check.due("18: no points", 0, x::pointCount);
        Check.due("18: clearPoints undone", 2, x::undo);
        Check.due("18: both points", 2, x::pointCount);
        Check.due("15: the place is taken again", Check.STATE, () -> x.addPoint(2, 9));
        Check.due("17: their values are back", 1L, () -> x.interpolate(3));
        Check.due("17: their values are back", "x + 1", () -> Check.written(x, 3));
        Check.due("18: interpolate undone", 2, x::undo);
        Check.due("18: the second point undone", 1, x::undo);
        Check.due("15: its place is free", 2, () -> x.addPoint(2, 4));
        Check.due("17: with the new value", 1L, () -> x.interpolate(3));
        Check.due("17: with the new value", "2*x", () -> Check.written(x, 3));
    }
}
