import java.io.IOException;
import java.lang.reflect.Method;
import java.lang.reflect.Modifier;
import java.nio.file.Files;
import java.nio.file.Path;
import java.util.regex.Matcher;
import java.util.regex.Pattern;

/** README.md says how to use the class: its example is done call by call, and its table names the whole face. */
public final class ReadmeTest {
    private static final String TEXT = read("README.md");
    private static final Pattern CALL = Pattern.compile("desk\\.(\\w+)\\(([^)]*)\\); +// (?:(-?\\d+): )?.+");

    public static void main(String[] args) {
        Check.test("the example's answers", ReadmeTest::example);
        Check.test("the table has every method", ReadmeTest::table);
        Check.test("how to run the tests", () -> Check.due("named", TEXT.contains("\n    .ci/run\n"), true));
        Check.finish();
    }

    private static String read(String file) {
        try {
            return Files.readString(Path.of(file));
        } catch (IOException e) {
            throw new IllegalStateException(e);
        }
    }

    private static void example() {
        String block = TEXT.split("```java\n")[1].split("```")[0];
        String[] lines = block.split("\n");
        Check.due("the first line", lines[0], "TwoMachines desk = new TwoMachines();");
        TwoMachines desk = new TwoMachines();
        for (int i = 1; i < lines.length; i++) {
            Matcher call = CALL.matcher(lines[i]);
            boolean isCall = call.matches();
            Check.due(lines[i] + " is a call with a comment", isCall, true);
            if (isCall) {
                Integer due = call.group(3) == null ? null : Integer.valueOf(call.group(3));
                Check.due(lines[i], answer(desk, call.group(1), call.group(2)), due);
            }
        }
    }

    /** Null of a method that answers nothing, so that only such a line may be without an answer. */
    private static Object answer(TwoMachines desk, String name, String fields) {
        String[] texts = fields.isEmpty() ? new String[0] : fields.split(", ");
        Class<?>[] types = new Class<?>[texts.length];
        Object[] numbers = new Object[texts.length];
        for (int i = 0; i < texts.length; i++) {
            types[i] = int.class;
            numbers[i] = Integer.valueOf(texts[i]);
        }
        try {
            return TwoMachines.class.getMethod(name, types).invoke(desk, numbers);
        } catch (ReflectiveOperationException e) {
            throw new IllegalStateException(e);
        }
    }

    private static void table() {
        for (Method m : TwoMachines.class.getDeclaredMethods()) {
            if (Modifier.isPublic(m.getModifiers())) {
                Check.due(m.getName() + " has a row", TEXT.contains("\n| `" + m.getName() + "("), true);
            }
        }
    }
}
