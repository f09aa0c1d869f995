import java.lang.reflect.Constructor;
import java.lang.reflect.Field;
import java.lang.reflect.Method;
import java.lang.reflect.Modifier;
import java.util.Arrays;
import java.util.Set;
import java.util.TreeSet;

/** The public face: just the document's members, and nothing else that can be seen from outside. */
public final class FaceTest {
    public static void main(String[] args) {
        Check.test("the class is public", () -> due(Modifier.isPublic(TwoMachines.class.getModifiers()), true));
        Check.test("the class is final", () -> due(Modifier.isFinal(TwoMachines.class.getModifiers()), true));
        Check.test("NONE", () -> due(TwoMachines.NONE, -1));
        Check.test("the methods", () -> due(methods(), setOf(
            "int add(int, int, int, int) throws IllegalArgumentException, IllegalStateException",
            "int clear()",
            "int translate()",
            "int size()",
            "int code(int, int) throws IllegalArgumentException, NoSuchElementException",
            "int begins(int) throws NoSuchElementException",
            "void register(int, int) throws IllegalArgumentException",
            "void data(int, int) throws IllegalArgumentException",
            "int run(int, int) throws IllegalArgumentException, IllegalStateException",
            "int result(int, int)",
            "int cell(int, int) throws IllegalArgumentException",
            "int access(int, int, int) throws IllegalArgumentException, NoSuchElementException")));
        Check.test("the constants", () -> due(fields(), setOf("public static final int NONE")));
        Check.test("the constructor", () -> due(constructors(), setOf("public TwoMachines()")));
        Check.finish();
    }

    private static void due(Object got, Object want) {
        Check.due("TwoMachines", got, want);
    }

    private static Set<String> setOf(String... texts) {
        return new TreeSet<>(Arrays.asList(texts));
    }

    private static Set<String> methods() {
        Set<String> found = new TreeSet<>();
        for (Method m : TwoMachines.class.getDeclaredMethods()) {
            if (!Modifier.isPrivate(m.getModifiers()) && !m.isSynthetic()) {
                String head = m.getReturnType().getSimpleName() + " " + m.getName();
                String exceptions = namesOf(m.getExceptionTypes());
                found.add(head + "(" + namesOf(m.getParameterTypes()) + ")"
                    + (exceptions.isEmpty() ? "" : " throws " + exceptions));
            }
        }
        return found;
    }

    private static String namesOf(Class<?>[] types) {
        StringBuilder text = new StringBuilder();
        for (Class<?> type : types) {
            text.append(text.length() == 0 ? "" : ", ").append(type.getSimpleName());
        }
        return text.toString();
    }

    private static Set<String> fields() {
        Set<String> found = new TreeSet<>();
        for (Field f : TwoMachines.class.getDeclaredFields()) {
            if (!Modifier.isPrivate(f.getModifiers()) && !f.isSynthetic()) {
                found.add(Modifier.toString(f.getModifiers()) + " " + f.getType().getName() + " " + f.getName());
            }
        }
        return found;
    }

    private static Set<String> constructors() {
        Set<String> found = new TreeSet<>();
        for (Constructor<?> c : TwoMachines.class.getDeclaredConstructors()) {
            String head = Modifier.toString(c.getModifiers()) + " " + c.getName();
            found.add(head + "(" + namesOf(c.getParameterTypes()) + ")");
        }
        return found;
    }
}
