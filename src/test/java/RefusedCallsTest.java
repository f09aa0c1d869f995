import java.util.ArrayList;
import java.util.Arrays;
import java.util.LinkedHashMap;
import java.util.List;
import java.util.Map;
import java.util.NoSuchElementException;
import java.util.function.Consumer;
import java.util.function.Function;

/**
 * "A method that throws changes nothing." Each refused call is made in each state on an object of its own, and what
 * can then be seen is compared with an object in the same state on which it was not made.
 */
public final class RefusedCallsTest {
    private static final Class<IllegalArgumentException> ARGUMENT = IllegalArgumentException.class;
    private static final Class<IllegalStateException> STATE = IllegalStateException.class;
    private static final Class<NoSuchElementException> ELEMENT = NoSuchElementException.class;

    private static final Map<String, Function<TwoMachines, String>> VIEWS = views();

    public static void main(String[] args) {
        state("a new object", false, x -> { });
        state("a program without code", false, x -> Check.addAll(x, "ADDN 1 0 1; HALT"));
        state("code", true, x -> {
            Check.addAll(x, "ADDN 1 0 1; HALT");
            x.translate();
        });
        state("the code of an empty program", true, TwoMachines::translate);
        state("a refused program", false, x -> {
            Check.addAll(x, "STORE 1 0 1; 14");
            x.translate();
        });
        state("start values", false, x -> {
            Check.addAll(x, "STORE 1 0 1; STORE 7 0 2");
            setStarts(x);
        });
        state("runs of both machines", true, RefusedCallsTest::runBoth);
        state("runs, and no code any more", false, x -> {
            runBoth(x);
            x.add(0, 0, 0, 0);
        });
        state("runs, and no program any more", false, x -> {
            runBoth(x);
            x.clear();
        });
        state("a full program without code", false, x -> Check.addAll(x, Check.times(24, "ADDN 1 1 1")));
        fullState("a full program without code", x -> Check.addAll(x, Check.times(24, "ADDN 1 1 1")));
        fullState("a full program with code and runs", x -> {
            Check.addAll(x, Check.times(23, "ADDN 1 1 1") + "; STORE 1 0 31");
            setStarts(x);
            x.translate();
            x.run(0, 100);
            x.run(1, 100);
        });
        Check.finish();
    }

    private static void setStarts(TwoMachines x) {
        for (int r = 1; r <= 7; r++) {
            x.register(r, 3 * r);
        }
        x.data(0, -32768);
        x.data(31, 32767);
    }

    private static void runBoth(TwoMachines x) {
        Check.addAll(x, "LOAD 4 0 31; STORE 4 0 3; ADDN 1 1 1; HALT");
        setStarts(x);
        x.translate();
        x.run(0, 100);
        x.run(1, 100);
    }

    private static void state(String name, boolean hasCode, Consumer<TwoMachines> recipe) {
        for (Call call : wrongArguments()) {
            test(call, name, recipe);
        }
        for (Call call : wrongElements()) {
            test(call, name, recipe);
        }
        if (!hasCode) {
            for (Call call : withoutCode()) {
                test(call, name, recipe);
            }
        }
    }

    private static void test(Call call, String name, Consumer<TwoMachines> recipe) {
        Check.test("a method that throws changes nothing: " + call.name + ", " + name,
            () -> changesNothing(recipe, call));
    }

    private static void fullState(String name, Consumer<TwoMachines> recipe) {
        Call[] calls = {
            new Call("add(5, 1, 1, 1)", STATE, x -> x.add(5, 1, 1, 1)),
            new Call("add(15, 7, 7, 127)", STATE, x -> x.add(15, 7, 7, 127)),
            new Call("add(16, 1, 1, 1)", ARGUMENT, x -> x.add(16, 1, 1, 1)),
            new Call("add(5, 8, 1, 1)", ARGUMENT, x -> x.add(5, 8, 1, 1)),
        };
        for (Call call : calls) {
            test(call, name, recipe);
        }
    }

    /** These are refused in every state, and so by the exception that is named first. */
    private static List<Call> wrongArguments() {
        List<Call> all = new ArrayList<>();
        int[][] instructions = {{-1, 1, 1, 1}, {16, 1, 1, 1}, {5, -1, 1, 1}, {5, 8, 1, 1}, {5, 1, -1, 1}, {5, 1, 8, 1},
            {5, 1, 1, -129}, {5, 1, 1, 128}};
        for (int[] i : instructions) {
            all.add(new Call("add of " + Arrays.toString(i), ARGUMENT, x -> x.add(i[0], i[1], i[2], i[3])));
        }
        int[][] registers = {{0, 9}, {-1, 9}, {8, 9}, {1, -32769}, {7, 32768}};
        for (int[] r : registers) {
            all.add(new Call("register(" + r[0] + ", " + r[1] + ")", ARGUMENT, x -> x.register(r[0], r[1])));
        }
        int[][] cells = {{-1, 9}, {32, 9}, {0, -32769}, {31, 32768}};
        for (int[] c : cells) {
            all.add(new Call("data(" + c[0] + ", " + c[1] + ")", ARGUMENT, x -> x.data(c[0], c[1])));
        }
        int[][] runs = {{-1, 9}, {2, 9}, {0, -1}, {0, 2001}, {1, -1}, {1, 2001}};
        for (int[] r : runs) {
            all.add(new Call("run(" + r[0] + ", " + r[1] + ")", ARGUMENT, x -> x.run(r[0], r[1])));
        }
        all.add(new Call("code(0, 4)", ARGUMENT, x -> x.code(0, 4)));
        all.add(new Call("code(-1, -1)", ARGUMENT, x -> x.code(-1, -1)));
        all.add(new Call("cell(2, 0)", ARGUMENT, x -> x.cell(2, 0)));
        all.add(new Call("cell(1, 32)", ARGUMENT, x -> x.cell(1, 32)));
        all.add(new Call("access(2, 0, 0)", ARGUMENT, x -> x.access(2, 0, 0)));
        all.add(new Call("access(0, 99, 3)", ARGUMENT, x -> x.access(0, 99, 3)));
        return all;
    }

    private static List<Call> wrongElements() {
        List<Call> all = new ArrayList<>();
        all.add(new Call("code(-1, 0)", ELEMENT, x -> x.code(-1, 0)));
        all.add(new Call("code(size(), 0)", ELEMENT, x -> x.code(x.size(), 0)));
        all.add(new Call("begins(-1)", ELEMENT, x -> x.begins(-1)));
        all.add(new Call("begins(25)", ELEMENT, x -> x.begins(25)));
        all.add(new Call("access(0, -1, 0)", ELEMENT, x -> x.access(0, -1, 0)));
        all.add(new Call("access(0, .., 0) behind the last", ELEMENT, x -> x.access(0, x.result(0, 11), 0)));
        all.add(new Call("access(1, .., 2) behind the last", ELEMENT, x -> x.access(1, x.result(1, 11), 2)));
        return all;
    }

    private static List<Call> withoutCode() {
        List<Call> all = new ArrayList<>();
        all.add(new Call("run(1, 5)", STATE, x -> x.run(1, 5)));
        all.add(new Call("run(1, 0)", STATE, x -> x.run(1, 0)));
        all.add(new Call("code(0, 0)", ELEMENT, x -> x.code(0, 0)));
        all.add(new Call("begins(0)", ELEMENT, x -> x.begins(0)));
        return all;
    }

    private static void changesNothing(Consumer<TwoMachines> recipe, Call call) {
        for (Map.Entry<String, Function<TwoMachines, String>> view : VIEWS.entrySet()) {
            TwoMachines with = new TwoMachines();
            recipe.accept(with);
            Check.refused(call.name, call.exception, () -> call.action.accept(with));
            TwoMachines without = new TwoMachines();
            recipe.accept(without);
            String got = view.getValue().apply(with);
            Check.due(view.getKey() + " behind " + call.name, got, view.getValue().apply(without));
        }
    }

    /** Each is looked at on an object of its own, for the later ones change it, and an object has 512 calls. */
    private static Map<String, Function<TwoMachines, String>> views() {
        Map<String, Function<TwoMachines, String>> all = new LinkedHashMap<>();
        all.put("the source's run", x -> Check.stateOf(x, 0));
        all.put("the target's run", x -> Check.stateOf(x, 1));
        all.put("the code", Check::codeOf);
        all.put("where places begin", RefusedCallsTest::beginnings);
        all.put("how long the program is", x -> "" + x.clear());
        all.put("what translate answers", x -> x.translate() + ": " + Check.codeOf(x));
        all.put("a later run of the source", x -> x.run(0, 100) + ": " + Check.stateOf(x, 0));
        all.put("a later run of the target",
            x -> x.translate() == 0 ? x.run(1, 100) + ": " + Check.stateOf(x, 1) : "none");
        all.put("start values", x -> {
            x.clear();
            x.translate();
            x.run(1, 0);
            return Check.stateOf(x, 1);
        });
        return all;
    }

    private static String beginnings(TwoMachines x) {
        StringBuilder text = new StringBuilder();
        for (int place = 0; place <= 24; place++) {
            try {
                text.append(x.begins(place)).append(' ');
            } catch (NoSuchElementException e) {
                text.append("none ");
            }
        }
        return text.toString();
    }

    private static final class Call {
        final String name;
        final Class<? extends RuntimeException> exception;
        final Consumer<TwoMachines> action;

        Call(String name, Class<? extends RuntimeException> exception, Consumer<TwoMachines> action) {
            this.name = name;
            this.exception = exception;
            this.action = action;
        }
    }
}
