import java.io.IOException;
import java.lang.reflect.Field;
import java.lang.reflect.Method;
import java.lang.reflect.Modifier;
import java.nio.file.Files;
import java.nio.file.Path;
import java.util.ArrayList;
import java.util.Arrays;
import java.util.List;
import java.util.Map;
import java.util.Set;
import java.util.TreeMap;
import java.util.TreeSet;
import java.util.regex.Matcher;
import java.util.regex.Pattern;

/** Those rules of LANGUAGE.md that can be seen in the program's text or in its classes, each under its number. */
public final class LanguageTest {
    private static final String TEXT = withoutComments(read("src/main/java/TwoMachines.java"));
    private static final List<Class<?>> CLASSES = classes();
    // A method (2: its name, 3: its lines) ends with the first line that closes it as far in as the one that opens it.
    private static final Pattern METHOD =
        Pattern.compile("(?ms)^( {4}| {8})(?! )[\\w\\[\\] ]*?(\\w+)\\([^)]*\\)[^;{]*\\{\n(.*?)^\\1\\}");

    public static void main(String[] args) {
        Check.test("rule 1: no private method bears the name of a public one", LanguageTest::namesOfMethods);
        Check.test("rule 1: classes inside are private or package-visible, and static", LanguageTest::classesInside);
        Check.test("rule 2: no lambda, no method reference", () -> isNowhere("->|::"));
        Check.test("rule 3: fields are of the types that are left", LanguageTest::typesOfFields);
        Check.test("rule 4: imports", () -> allAre("import ([\\w.]+);", "java.util.ArrayList", "java.util.Arrays",
            "java.util.Iterator", "java.util.List", "java.util.NoSuchElementException"));
        Check.test("rule 4: functions of Math",
            () -> allAre("\\bMath\\.(\\w+)", "max", "min", "abs", "floorDiv", "floorMod"));
        Check.test("rule 4: functions of System", () -> allAre("\\bSystem\\.(\\w+)", "arraycopy"));
        Check.test("rule 4: functions of Arrays", () -> allAre("\\bArrays\\.(\\w+)", "copyOf", "copyOfRange", "fill"));
        Check.test("rule 5: static fields are final constants", LanguageTest::staticFields);
        Check.test("rule 5: no static initialiser block", () -> isNowhere("static\\s*\\{"));
        Check.test("rule 6: what is thrown", () -> allAre("throw new (\\w+\\(\\);)",
            "IllegalArgumentException();", "IllegalStateException();", "NoSuchElementException();"));
        Check.test("rule 6: nothing else throws", () -> isNowhere("throw (?!new )"));
        Check.test("rule 6: words that are left out", () -> isNowhere("\\b(try|catch|finally|synchronized|assert)\\b"));
        Check.test("rule 8: no recursion, and rule 11: calls go at most eight deep", LanguageTest::depthOfCalls);
        Check.test("rule 9: every loop counts against a bound", LanguageTest::loops);
        Check.test("rule 10: joining texts not by +", () -> isNowhere("\"\\s*\\+|\\+\\s*\""));
        Check.test("rule 11: at most seven parameters", LanguageTest::parameters);
        Check.test("rule 11: some sixty lines a method", LanguageTest::linesOfMethods);
        Check.test("rule 11: some twelve classes", () -> Check.due("few", CLASSES.size() <= 12, true));
        Check.test("rule 11: some twenty fields a class beside its constants", LanguageTest::fieldsOfClasses);
        Check.test("rule 12: what a run makes is small, for constructors alone make objects",
            LanguageTest::madeByConstructors);
        Check.test("rule 13: no clock, no randomness, no file, network, thread or environment",
            () -> isNowhere("currentTime|nanoTime|Random|java\\.(io|nio|net|time)|Thread|getenv|getProperty"));
        Check.finish();
    }

    private static String read(String file) {
        try {
            return Files.readString(Path.of(file));
        } catch (IOException e) {
            throw new IllegalStateException(e);
        }
    }

    private static String withoutComments(String text) {
        return text.replaceAll("(?s)/\\*.*?\\*/", "").replaceAll("//[^\n]*", "");
    }

    private static List<Class<?>> classes() {
        List<Class<?>> all = new ArrayList<>(Arrays.asList(TwoMachines.class.getDeclaredClasses()));
        all.add(TwoMachines.class);
        return all;
    }

    private static void isNowhere(String pattern) {
        Matcher m = Pattern.compile(pattern).matcher(TEXT);
        Check.due("the first of " + pattern, m.find() ? m.group() : "none", "none");
    }

    private static void allAre(String pattern, String... left) {
        Set<String> found = new TreeSet<>();
        Matcher m = Pattern.compile(pattern).matcher(TEXT);
        while (m.find()) {
            found.add(m.group(1));
        }
        found.removeAll(Arrays.asList(left));
        Check.due("others than " + Arrays.toString(left), found, new TreeSet<String>());
    }

    private static void namesOfMethods() {
        Set<String> face = new TreeSet<>();
        for (Method m : TwoMachines.class.getDeclaredMethods()) {
            if (Modifier.isPublic(m.getModifiers())) {
                face.add(m.getName());
            }
        }
        for (Class<?> c : CLASSES) {
            for (Method m : c.getDeclaredMethods()) {
                boolean isOfTheFace = c == TwoMachines.class && Modifier.isPublic(m.getModifiers());
                boolean bearsSuch = !isOfTheFace && face.contains(m.getName());
                Check.due(c.getName() + "." + m.getName() + " bears such a name", bearsSuch, false);
            }
        }
    }

    private static void classesInside() {
        for (Class<?> c : TwoMachines.class.getDeclaredClasses()) {
            int modifiers = c.getModifiers();
            Check.due(c.getName() + " is static", Modifier.isStatic(modifiers), true);
            Check.due(c.getName() + " is seen", Modifier.isPublic(modifiers) || Modifier.isProtected(modifiers), false);
        }
    }

    private static void typesOfFields() {
        for (Class<?> c : CLASSES) {
            for (Field f : c.getDeclaredFields()) {
                Class<?> type = f.getType();
                boolean isLeft = type == int.class || type == int[].class || CLASSES.contains(type);
                Check.due(c.getName() + "." + f.getName() + " is of such a type", isLeft, true);
            }
        }
    }

    private static void staticFields() {
        for (Class<?> c : CLASSES) {
            for (Field f : c.getDeclaredFields()) {
                if (Modifier.isStatic(f.getModifiers())) {
                    boolean isConstant = Modifier.isFinal(f.getModifiers()) && f.getType() == int.class;
                    Check.due(c.getName() + "." + f.getName() + " is a constant", isConstant, true);
                }
            }
        }
    }

    private static void parameters() {
        for (Class<?> c : CLASSES) {
            for (Method m : c.getDeclaredMethods()) {
                Check.due(c.getName() + "." + m.getName() + " takes few", m.getParameterCount() <= 7, true);
            }
        }
    }

    private static void linesOfMethods() {
        Matcher m = METHOD.matcher(TEXT);
        int methods = 0;
        while (m.find()) {
            methods++;
            int lines = m.group(3).split("\n").length;
            Check.due("a method of " + lines + " lines is short", lines <= 60, true);
        }
        Check.due("methods are found", methods > 40, true);
    }

    /** Methods of one name are taken as one that calls all that they call: no call is missed so. */
    private static void depthOfCalls() {
        Map<String, String> bodies = new TreeMap<>();
        Matcher m = METHOD.matcher(TEXT);
        while (m.find()) {
            bodies.merge(m.group(2), m.group(3), String::concat);
        }
        for (String name : bodies.keySet()) {
            Check.due(name + " goes few deep", depthOf(name, bodies, 1) <= 8, true);
        }
    }

    private static int depthOf(String name, Map<String, String> bodies, int depth) {
        int deepest = depth;
        Matcher call = Pattern.compile("(\\w+)\\(").matcher(bodies.get(name));
        while (call.find() && deepest <= 8) {
            if (bodies.containsKey(call.group(1))) {
                deepest = Math.max(deepest, depthOf(call.group(1), bodies, depth + 1));
            }
        }
        return deepest;
    }

    private static void loops() {
        isNowhere("\\b(while|do)\\b");
        isNowhere("for \\((?!int (\\w+) = [01]; \\1 < [\\w.]+( && ended == RUNNING)?; \\1\\+\\+\\))");
    }

    private static void fieldsOfClasses() {
        for (Class<?> c : CLASSES) {
            int fields = 0;
            for (Field f : c.getDeclaredFields()) {
                fields += Modifier.isStatic(f.getModifiers()) ? 0 : 1;
            }
            Check.due(c.getName() + " has few fields", fields <= 20, true);
        }
    }

    private static void madeByConstructors() {
        for (String line : TEXT.split("\n")) {
            boolean makes = line.contains("new ") && !line.contains("throw new ");
            boolean isOfAConstructor = line.matches(" +\\w+ = new .*");
            Check.due("made beside a constructor: " + line.trim(), makes && !isOfAConstructor, false);
        }
    }
}
