import java.util.NoSuchElementException;

/** Promises 1 to 3: a new object, add, clear. */
public final class ProgramTest {
    public static void main(String[] args) {
        newObject();
        addAnswersPlaces();
        addTakesTheEdges();
        addRefuses();
        addEndsAt24();
        addDropsTheCode();
        refusedAddKeepsTheCode();
        clearDropsAll();
        clearKeepsStartsAndRuns();
        objectsAreApart();
        Check.finish();
    }

    private static void newObject() {
        TwoMachines x = new TwoMachines();
        Check.due("new: size()", x.size(), 0);
        Check.due("new: clear()", x.clear(), 0);
        for (int machine = 0; machine < 2; machine++) {
            for (int what = 0; what <= 11; what++) {
                Check.due("new: result(" + machine + ", " + what + ")", x.result(machine, what), 0);
            }
            for (int a = 0; a < 32; a++) {
                Check.due("new: cell(" + machine + ", " + a + ")", x.cell(machine, a), 0);
            }
            int m = machine;
            Check.refused("new: access(" + m + ", 0, 0)", NoSuchElementException.class, () -> x.access(m, 0, 0));
        }
        Check.refused("new: code(0, 0)", NoSuchElementException.class, () -> x.code(0, 0));
        Check.refused("new: begins(0)", NoSuchElementException.class, () -> x.begins(0));
        Check.refused("new: run(1, 1)", IllegalStateException.class, () -> x.run(1, 1));
        Check.due("new: run(0, 5)", x.run(0, 5), 0);
        Check.due("new: the registers start with 0", Check.registersOf(x, 0), "0 0 0 0 0 0 0 0");
        Check.due("new: the data start with 0", Check.dataOf(x, 0), "0 ".repeat(32));
    }

    private static void addAnswersPlaces() {
        TwoMachines x = new TwoMachines();
        for (int i = 0; i < 24; i++) {
            Check.due("add number " + i, x.add(i % 16, i % 8, (i + 3) % 8, i - 12), i);
        }
    }

    private static void addTakesTheEdges() {
        TwoMachines x = new TwoMachines();
        Check.due("add(0, 0, 0, -128)", x.add(0, 0, 0, -128), 0);
        Check.due("add(15, 7, 7, 127)", x.add(15, 7, 7, 127), 1);
    }

    private static void addRefuses() {
        int[][] wrong = {
            {-1, 0, 0, 0}, {16, 0, 0, 0}, {Integer.MIN_VALUE, 0, 0, 0}, {Integer.MAX_VALUE, 0, 0, 0},
            {0, -1, 0, 0}, {0, 8, 0, 0}, {0, 0, -1, 0}, {0, 0, 8, 0}, {0, 0, 0, -129}, {0, 0, 0, 128},
            {0, Integer.MIN_VALUE, 0, 0}, {0, 0, Integer.MAX_VALUE, 0}, {0, 0, 0, Integer.MIN_VALUE},
        };
        TwoMachines x = new TwoMachines();
        for (int[] w : wrong) {
            Check.refused("add" + java.util.Arrays.toString(w), IllegalArgumentException.class,
                () -> x.add(w[0], w[1], w[2], w[3]));
        }
        Check.due("refused adds add nothing", x.clear(), 0);
    }

    private static void addEndsAt24() {
        TwoMachines x = new TwoMachines();
        for (int i = 0; i < 24; i++) {
            x.add(5, 1, 1, 1);
        }
        Check.due("translate of 24", x.translate(), 0);
        Check.refused("the 25th add", IllegalStateException.class, () -> x.add(5, 1, 1, 1));
        Check.refused("the 25th add, wrong besides", IllegalArgumentException.class, () -> x.add(16, 1, 1, 1));
        Check.due("a refused 25th add keeps the code", x.size(), 25);
        Check.due("24 have been done", x.run(0, 100), 24);
        Check.due("24 there are", x.clear(), 24);
        Check.due("there is room again", x.add(0, 0, 0, 0), 0);
    }

    private static void addDropsTheCode() {
        TwoMachines x = Check.desk(5, 1, 0, 1);
        x.translate();
        Check.due("size() with code", x.size(), 2);
        x.add(0, 0, 0, 0);
        Check.due("size() behind add", x.size(), 0);
        Check.refused("code behind add", NoSuchElementException.class, () -> x.code(0, 0));
        Check.refused("begins behind add", NoSuchElementException.class, () -> x.begins(0));
        Check.refused("run(1, ..) behind add", IllegalStateException.class, () -> x.run(1, 1));
    }

    private static void refusedAddKeepsTheCode() {
        TwoMachines x = Check.desk(5, 1, 0, 1);
        x.translate();
        Check.refused("add(0, 0, 0, 200)", IllegalArgumentException.class, () -> x.add(0, 0, 0, 200));
        Check.due("the code stays", Check.codeOf(x), "5 1 0 1; 0 0 0 1");
    }

    private static void clearDropsAll() {
        TwoMachines x = Check.desk(5, 1, 0, 1, 0, 0, 0, 0);
        x.translate();
        Check.due("clear()", x.clear(), 2);
        Check.due("size() behind clear", x.size(), 0);
        Check.refused("begins behind clear", NoSuchElementException.class, () -> x.begins(0));
        Check.refused("run(1, ..) behind clear", IllegalStateException.class, () -> x.run(1, 1));
        Check.due("clear() again", x.clear(), 0);
        Check.due("nothing runs", x.run(0, 9), 0);
        Check.due("it is a fault", x.result(0, 8), 2);
        Check.due("the first place again", x.add(0, 0, 0, 0), 0);
    }

    private static void clearKeepsStartsAndRuns() {
        TwoMachines x = Check.desk(5, 2, 1, 1, 8, 2, 0, 6);
        x.register(1, 11);
        x.data(5, 7);
        x.translate();
        x.run(0, 9);
        x.run(1, 99);
        String source = Check.stateOf(x, 0);
        String target = Check.stateOf(x, 1);
        x.clear();
        x.add(0, 0, 0, 0);
        x.translate();
        Check.due("the source's run stays", Check.stateOf(x, 0), source);
        Check.due("the target's run stays", Check.stateOf(x, 1), target);
        x.run(0, 9);
        Check.due("register 1 still starts with", x.result(0, 1), 11);
        Check.due("register 2 starts anew", x.result(0, 2), 0);
        Check.due("cell 5 still starts with", x.cell(0, 5), 7);
        Check.due("cell 6 starts anew", x.cell(0, 6), 0);
    }

    private static void objectsAreApart() {
        TwoMachines x = Check.desk(5, 1, 0, 1);
        TwoMachines y = new TwoMachines();
        x.register(3, 5);
        x.translate();
        x.run(0, 5);
        Check.due("another object's size()", y.size(), 0);
        Check.due("another object's result", y.result(0, 3), 0);
        Check.due("another object's clear()", y.clear(), 0);
    }
}
