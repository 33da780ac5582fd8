import java.io.IOException;
import java.lang.reflect.Constructor;
import java.lang.reflect.Field;
import java.lang.reflect.Method;
import java.lang.reflect.Modifier;
import java.nio.file.Files;
import java.nio.file.Path;
import java.util.Arrays;
import java.util.Set;
import java.util.TreeSet;
import java.util.regex.Matcher;
import java.util.regex.Pattern;

/** The face of the class, and what can be seen of ../shared/LANGUAGE.md from outside. */
public final class FaceTest {
    private static final String[] FACE = {
        "int add(int, int, int)", "int subtract(int, int, int)", "int multiply(int, int, int)", "int power(int, int, int)",
        "int derive(int, int)", "int substitute(int, int, int)", "int divide(int, int, int, int)", "int gcd(int, int, int)",
        "int primitive(int, int)", "int simple(int, int)", "int residue(int, int, int)", "int setTerm(int, int, long)",
        "int read(int)", "int addPoint(int, int)", "int clearPoints()", "long interpolate(int)", "int undo()", "int degree(int)",
        "int terms(int)", "int exponent(int, int)", "int coefficient(int, int)", "int content(int)", "int value(int, int, int)",
        "boolean divides(int, int)", "boolean areSame(int, int)", "int agreements(int, int)", "int digits(boolean)",
        "int digit(boolean, int)", "long low(boolean)", "int realRoots(int)", "int rootsBetween(int, int, int, int, int)",
        "int sturmLength(int)", "int changes(int, int, int)", "int closeIn(int, int, int)", "int fractionRoots(int)",
        "int fractionRoot(int, int)", "int rootsBy(int, int)", "int rootBy(int, int)", "int pointCount()",
        "int append(int, int, int, int, int)", "int clearText()", "int errorPosition()", "int write(int)", "int writtenAt(int)",
        "double meanTerms()", "float usedShare()", "int errors()"};

    // I: index, A: argument, R: arithmetic, S: state, N: no such element; in the document's order.
    private static final String[] THROWN = {
        "add IS", "subtract IS", "multiply IS", "power IAS", "derive IS", "substitute IS", "divide IARS", "gcd IS", "primitive I",
        "simple IRS", "residue IA", "setTerm IAS", "read IAS", "addPoint AS", "clearPoints ", "interpolate IS", "undo ", "degree I",
        "terms I", "exponent I", "coefficient IA", "content I", "value IA", "divides I", "areSame I", "agreements I", "digits ",
        "digit I", "low ", "realRoots IR", "rootsBetween IARS", "sturmLength IR", "changes IAR", "closeIn IA", "fractionRoots IR",
        "fractionRoot I", "rootsBy IA", "rootBy IAN", "pointCount ", "append S", "clearText ", "errorPosition ", "write I",
        "writtenAt I", "meanTerms ", "usedShare ", "errors "};

    public static void main(String[] args) throws IOException {
        face();
        names();
        fields();
        source();
        Check.end();
    }

    private static void face() {
        Set<String> found = new TreeSet<>();
        for (Method m : PolyRegisters.class.getDeclaredMethods()) {
            if (!Modifier.isPrivate(m.getModifiers())) {
                String parameters = Arrays.toString(m.getParameterTypes());
                found.add(m.getReturnType() + " " + m.getName() + "(" + parameters.substring(1, parameters.length() - 1) + ")");
            }
        }
        Check.due("the methods", new TreeSet<>(Arrays.asList(FACE)).toString(), found::toString);
        Check.due("the exceptions", new TreeSet<>(Arrays.asList(THROWN)).toString(), () -> thrown().toString());
        Check.due("public and final", Modifier.PUBLIC | Modifier.FINAL, PolyRegisters.class::getModifiers);
        Constructor<?>[] all = PolyRegisters.class.getDeclaredConstructors();
        Check.due("one constructor", true, () -> all.length == 1 && Modifier.isPublic(all[0].getModifiers()) && all[0].getParameterCount() == 0);
        for (Field f : PolyRegisters.class.getDeclaredFields()) {
            Check.due("field " + f.getName(), f.getName().equals("NONE"), () -> !Modifier.isPrivate(f.getModifiers()));
        }
    }

    private static Set<String> thrown() {
        Set<String> found = new TreeSet<>();
        for (Method m : PolyRegisters.class.getDeclaredMethods()) {
            if (Modifier.isPublic(m.getModifiers())) {
                StringBuilder line = new StringBuilder(m.getName()).append(' ');
                for (Class<?> type : m.getExceptionTypes()) {
                    line.append(letter(type));
                }
                found.add(line.toString());
            }
        }
        return found;
    }

    private static char letter(Class<?> exception) {
        switch (exception.getSimpleName()) {
            case "IndexOutOfBoundsException": return 'I';
            case "IllegalArgumentException": return 'A';
            case "ArithmeticException": return 'R';
            case "IllegalStateException": return 'S';
            case "NoSuchElementException": return 'N';
            default: return '?';
        }
    }

    private static void names() {
        Set<String> publics = new TreeSet<>();
        for (String line : FACE) {
            publics.add(line.substring(line.indexOf(' ') + 1, line.indexOf('(')));
        }
        for (Class<?> c : PolyRegisters.class.getDeclaredClasses()) {
            Check.due(c + " is static and private", true, () -> Modifier.isStatic(c.getModifiers()) && Modifier.isPrivate(c.getModifiers()));
            for (Method m : c.getDeclaredMethods()) {
                Check.due(m + " bears a public name", false, () -> publics.contains(m.getName()));
            }
        }
        for (Method m : PolyRegisters.class.getDeclaredMethods()) {
            if (Modifier.isPrivate(m.getModifiers())) {
                Check.due(m + " bears a public name", false, () -> publics.contains(m.getName()));
            }
        }
        Check.due("some twelve classes", true, () -> PolyRegisters.class.getDeclaredClasses().length <= 11);
    }

    private static void fields() {
        for (Class<?> c : PolyRegisters.class.getDeclaredClasses()) {
            checkFields(c);
        }
        checkFields(PolyRegisters.class);
    }

    private static void checkFields(Class<?> c) {
        int own = 0;
        for (Field f : c.getDeclaredFields()) {
            boolean isStatic = Modifier.isStatic(f.getModifiers());
            own += isStatic ? 0 : 1;
            Check.due(f + " is final if static", true, () -> !isStatic || Modifier.isFinal(f.getModifiers()) && f.getType().isPrimitive());
        }
        int count = own;
        Check.due(c + " has some twenty fields", true, () -> count <= 20);
    }

    private static void source() throws IOException {
        String code = Files.readString(Path.of("src/main/java/PolyRegisters.java"));
        String bare = code.replaceAll("(?s)/\\*.*?\\*/", "").replaceAll("//[^\n]*", "").replaceAll("'.'", "' '");
        String[] outside = {"\\btry\\b", "\\bcatch\\b", "\\bfinally\\b", "\\bassert\\b", "\\bsynchronized\\b", "->", "::", "Exact\\(",
            "\\bpackage\\b", "@", "\"", "\\bwhile\\b", "\\bObject\\b", "\\bSystem\\b", "\\bpublic\\s+static\\s+(?!final)"};
        for (String word : outside) {
            Check.due("outside of the language: " + word, false, () -> Pattern.compile(word).matcher(bare).find());
        }
        Matcher imports = Pattern.compile("import ([\\w.]+);").matcher(bare);
        while (imports.find()) {
            String name = imports.group(1);
            Check.due("import", "java.util.NoSuchElementException", () -> name);
        }
        Matcher calls = Pattern.compile("\\b([A-Z]\\w*)\\.(\\w+)\\(").matcher(bare);
        while (calls.find()) {
            String call = calls.group(1) + "." + calls.group(2);
            Check.due("library: " + call, true, () -> call.equals("Math.min") || call.equals("Math.max"));
        }
    }
}
