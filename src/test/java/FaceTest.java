import java.lang.reflect.Constructor;
import java.lang.reflect.Field;
import java.lang.reflect.Method;
import java.lang.reflect.Modifier;
import java.util.Arrays;
import java.util.Set;
import java.util.TreeSet;

/** The public face: just the document's members, and nothing else that can be seen from outside. */
public final class FaceTest {
    public static void main(String[] args) {
        due("the class is public and final",
            Modifier.isPublic(TwoMachines.class.getModifiers()) && Modifier.isFinal(TwoMachines.class.getModifiers()), true);
        due("NONE", TwoMachines.NONE, -1);
        due("the methods", methods(), new TreeSet<>(Arrays.asList(
            "int add(int, int, int, int)", "int clear()", "int translate()", "int size()", "int code(int, int)",
            "int begins(int)", "void register(int, int)", "void data(int, int)", "int run(int, int)",
            "int result(int, int)", "int cell(int, int)", "int access(int, int, int)")));
        due("the fields", fields(), new TreeSet<>(Arrays.asList("public static final int NONE")));
        due("the constructors", constructors(), new TreeSet<>(Arrays.asList("public 0")));
        Check.finish();
    }

    private static void due(String call, Object got, Object want) {
        Check.due(call, got, want);
    }

    private static Set<String> methods() {
        Set<String> found = new TreeSet<>();
        for (Method m : TwoMachines.class.getDeclaredMethods()) {
            if (!Modifier.isPrivate(m.getModifiers()) && !m.isSynthetic()) {
                StringBuilder text = new StringBuilder();
                for (Class<?> type : m.getParameterTypes()) {
                    text.append(text.length() == 0 ? "" : ", ").append(type.getName());
                }
                found.add(m.getReturnType().getName() + " " + m.getName() + "(" + text + ")");
            }
        }
        return found;
    }

    private static Set<String> fields() {
        Set<String> found = new TreeSet<>();
        for (Field f : TwoMachines.class.getDeclaredFields()) {
            if (!Modifier.isPrivate(f.getModifiers()) && !f.isSynthetic()) {
                found.add(Modifier.toString(f.getModifiers()) + " " + f.getType().getName() + " " + f.getName());
            }
        }
        return found;
    }

    private static Set<String> constructors() {
        Set<String> found = new TreeSet<>();
        for (Constructor<?> c : TwoMachines.class.getDeclaredConstructors()) {
            found.add(Modifier.toString(c.getModifiers()) + " " + c.getParameterCount());
        }
        return found;
    }
}
