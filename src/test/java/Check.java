import java.util.ArrayList;
import java.util.Arrays;
import java.util.Collections;
import java.util.List;
import java.util.Objects;
import java.util.function.IntConsumer;

/** What the tests share: answers and exceptions that are due, and programs, code and runs as texts. */
final class Check {
    /** What no range of the document holds. */
    static final int[] FAR_OUTSIDE = {Integer.MIN_VALUE, Integer.MAX_VALUE};

    // An operation's number is where its name stands; 14 and 15 are none.
    private static final List<String> SOURCE = List.of("HALT", "ADD", "SUB", "AND", "LESS", "ADDN", "HIGH", "LOAD",
        "STORE", "SAME", "OTHER", "JUMP", "LINK", "TO", "14", "15");
    private static final List<String> TARGET = List.of("STOP", "ADD", "SUB", "AND", "LESS", "ADDN", "HIGH", "LOAD",
        "STORE", "SAME", "OTHER", "JUMP", "ABOVE", "TO");

    private static int tests = 0;
    private static int wrong = 0;
    private static String sentence = "";

    private Check() {
    }

    /** A test of one sentence of the document: what is wrong in it is told under the sentence. */
    static void test(String name, Runnable body) {
        sentence = name + ": ";
        tests++;
        try {
            body.run();
        } catch (RuntimeException e) {
            due("the test", e.toString(), "no exception");
        }
        sentence = "";
    }

    static void due(String call, Object got, Object want) {
        if (!Objects.equals(got, want)) {
            wrong++;
            System.out.println(sentence + call + " answered " + got + ", due is " + want);
        }
    }

    static void refused(String call, Class<? extends RuntimeException> want, Runnable action) {
        Class<?> got = null;
        try {
            action.run();
        } catch (RuntimeException e) {
            got = e.getClass();
        }
        due(call + " throws", got, want);
    }

    static void finish() {
        String outcome = wrong == 0 ? "all answers are as due" : wrong + " answers are not as due";
        System.out.println(tests + " tests, " + outcome);
        if (wrong != 0) {
            System.exit(1);
        }
    }

    /** A new object with a program such as "ADDN 1 0 5; HALT"; fields that are not written are 0. */
    static TwoMachines desk(String program) {
        TwoMachines x = new TwoMachines();
        addAll(x, program);
        return x;
    }

    static TwoMachines translated(String program) {
        TwoMachines x = desk(program);
        due("translate() of " + program, x.translate(), 0);
        return x;
    }

    static void addAll(TwoMachines x, String program) {
        for (int[] i : instructions(program)) {
            x.add(i[0], i[1], i[2], i[3]);
        }
    }

    static List<int[]> instructions(String program) {
        List<int[]> all = new ArrayList<>();
        for (String text : program.split(";")) {
            String[] parts = text.trim().split(" ");
            int[] instruction = new int[4];
            instruction[0] = SOURCE.indexOf(parts[0]);
            for (int i = 1; i < parts.length; i++) {
                instruction[i] = Integer.parseInt(parts[i]);
            }
            all.add(instruction);
        }
        return all;
    }

    static String times(int count, String instruction) {
        return String.join("; ", Collections.nCopies(count, instruction));
    }

    static String nameOf(int operation) {
        return SOURCE.get(operation);
    }

    /** Runs both machines, each as long as may be, and looks at each behind its run. */
    static void onBoth(TwoMachines x, IntConsumer look) {
        due("translate()", x.translate(), 0);
        for (int machine = 0; machine < 2; machine++) {
            x.run(machine, 2000);
            look.accept(machine);
        }
    }

    static void dueRegisters(TwoMachines x, String want) {
        onBoth(x, m -> due("the registers of machine " + m, registersOf(x, m), want));
    }

    static void dueAccesses(TwoMachines x, String want) {
        onBoth(x, m -> due("the accesses of machine " + m, accessesOf(x, m), want));
    }

    static String codeOf(TwoMachines x) {
        List<String> all = new ArrayList<>();
        for (int place = 0; place < x.size(); place++) {
            String fields = x.code(place, 1) + " " + x.code(place, 2) + " " + x.code(place, 3);
            all.add(TARGET.get(x.code(place, 0)) + " " + fields);
        }
        return String.join("; ", all);
    }

    /** The end, HERE or the place, how many were done, how many accesses were kept. */
    static String endOf(TwoMachines x, int machine) {
        return Arrays.toString(new int[] {
            x.result(machine, 8), x.result(machine, 9), x.result(machine, 10), x.result(machine, 11)});
    }

    static String registersOf(TwoMachines x, int machine) {
        List<String> all = new ArrayList<>();
        for (int r = 0; r < 8; r++) {
            all.add("" + x.result(machine, r));
        }
        return String.join(" ", all);
    }

    static String dataOf(TwoMachines x, int machine) {
        List<String> all = new ArrayList<>();
        for (int a = 0; a < 32; a++) {
            all.add("" + x.cell(machine, a));
        }
        return String.join(" ", all);
    }

    /** All cells 0 but for those that are given, a cell and its number each. */
    static String dataWith(int... cellsAndNumbers) {
        int[] data = new int[32];
        for (int i = 0; i < cellsAndNumbers.length; i += 2) {
            data[cellsAndNumbers[i]] = cellsAndNumbers[i + 1];
        }
        List<String> all = new ArrayList<>();
        for (int number : data) {
            all.add("" + number);
        }
        return String.join(" ", all);
    }

    static String accessesOf(TwoMachines x, int machine) {
        List<String> all = new ArrayList<>();
        for (int k = 0; k < x.result(machine, 11); k++) {
            all.add(x.access(machine, k, 0) + " " + kindOf(x.access(machine, k, 1)) + " " + x.access(machine, k, 2));
        }
        return String.join("; ", all);
    }

    private static String kindOf(int written) {
        return written == 0 ? "read" : written == 1 ? "written" : "access of kind " + written;
    }

    static String stateOf(TwoMachines x, int machine) {
        return registersOf(x, machine) + " | " + endOf(x, machine) + " | " + dataOf(x, machine) + " | "
            + accessesOf(x, machine);
    }
}
