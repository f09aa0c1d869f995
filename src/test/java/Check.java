import java.util.Objects;

/** What the tests share: answers that are due, exceptions that are due, and code and runs as one text. */
final class Check {
    private static int wrong = 0;

    private Check() {
    }

    static void due(String call, Object got, Object want) {
        if (!Objects.equals(got, want)) {
            wrong++;
            System.out.println(call + " answered " + got + ", due is " + want);
        }
    }

    static void refused(String call, Class<? extends RuntimeException> want, Runnable action) {
        Class<?> got = null;
        try {
            action.run();
        } catch (RuntimeException e) {
            got = e.getClass();
        }
        due(call + " throws", got, want);
    }

    static void finish() {
        System.out.println(wrong == 0 ? "all answers are as due" : wrong + " answers are not as due");
        if (wrong != 0) {
            System.exit(1);
        }
    }

    /** A new object with these instructions, four numbers each. */
    static TwoMachines desk(int... instructions) {
        TwoMachines x = new TwoMachines();
        addAll(x, instructions);
        return x;
    }

    static void addAll(TwoMachines x, int... instructions) {
        for (int i = 0; i < instructions.length; i += 4) {
            x.add(instructions[i], instructions[i + 1], instructions[i + 2], instructions[i + 3]);
        }
    }

    static String codeOf(TwoMachines x) {
        StringBuilder text = new StringBuilder();
        for (int place = 0; place < x.size(); place++) {
            text.append(place == 0 ? "" : "; ");
            for (int what = 0; what < 4; what++) {
                text.append(what == 0 ? "" : " ").append(x.code(place, what));
            }
        }
        return text.toString();
    }

    /** The registers, the end and the place, the data and the accesses of a machine's latest run. */
    static String stateOf(TwoMachines x, int machine) {
        StringBuilder text = new StringBuilder();
        for (int what = -1; what <= 12; what++) {
            text.append(x.result(machine, what)).append(' ');
        }
        return text.append("| ").append(dataOf(x, machine)).append("| ").append(accessesOf(x, machine)).toString();
    }

    static String registersOf(TwoMachines x, int machine) {
        StringBuilder text = new StringBuilder();
        for (int r = 0; r < 8; r++) {
            text.append(r == 0 ? "" : " ").append(x.result(machine, r));
        }
        return text.toString();
    }

    static String dataOf(TwoMachines x, int machine) {
        StringBuilder text = new StringBuilder();
        for (int a = 0; a < 32; a++) {
            text.append(x.cell(machine, a)).append(' ');
        }
        return text.toString();
    }

    static String accessesOf(TwoMachines x, int machine) {
        StringBuilder text = new StringBuilder();
        for (int k = 0; k < x.result(machine, 11); k++) {
            text.append(k == 0 ? "" : "; ");
            for (int what = 0; what < 3; what++) {
                text.append(what == 0 ? "" : " ").append(x.access(machine, k, what));
            }
        }
        return text.toString();
    }
}
