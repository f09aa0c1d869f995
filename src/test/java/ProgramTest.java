import java.util.NoSuchElementException;

/** Promises 1 to 3: a new object, add, clear. */
public final class ProgramTest {
    public static void main(String[] args) {
        newObject();
        add();
        clear();
        Check.finish();
    }

    private static void newObject() {
        Check.test("promise 1: no program", ProgramTest::noProgram);
        Check.test("promise 1: no code", () -> hasNoCode(new TwoMachines()));
        Check.test("promise 1: all start values 0", ProgramTest::startValuesAre0);
        Check.test("promise 1: no run", ProgramTest::noRun);
        Check.test("promise 1: a new object has nothing of another", ProgramTest::objectsAreApart);
    }

    private static void add() {
        Check.test("promise 2: answers its place, 0 .. 23", ProgramTest::addAnswersPlaces);
        Check.test("promise 2: operation 0 is taken", () -> isTaken(0, 1, 1, 1));
        Check.test("promise 2: operation 15 is taken", () -> isTaken(15, 1, 1, 1));
        Check.test("promise 2: operation -1 is refused", () -> isRefused(-1, 1, 1, 1));
        Check.test("promise 2: operation 16 is refused", () -> isRefused(16, 1, 1, 1));
        Check.test("promise 2: field A 0 is taken", () -> isTaken(5, 0, 1, 1));
        Check.test("promise 2: field A 7 is taken", () -> isTaken(5, 7, 1, 1));
        Check.test("promise 2: field A -1 is refused", () -> isRefused(5, -1, 1, 1));
        Check.test("promise 2: field A 8 is refused", () -> isRefused(5, 8, 1, 1));
        Check.test("promise 2: field B 0 is taken", () -> isTaken(5, 1, 0, 1));
        Check.test("promise 2: field B 7 is taken", () -> isTaken(5, 1, 7, 1));
        Check.test("promise 2: field B -1 is refused", () -> isRefused(5, 1, -1, 1));
        Check.test("promise 2: field B 8 is refused", () -> isRefused(5, 1, 8, 1));
        Check.test("promise 2: field C -128 is taken", () -> isTaken(5, 1, 1, -128));
        Check.test("promise 2: field C 127 is taken", () -> isTaken(5, 1, 1, 127));
        Check.test("promise 2: field C -129 is refused", () -> isRefused(5, 1, 1, -129));
        Check.test("promise 2: field C 128 is refused", () -> isRefused(5, 1, 1, 128));
        Check.test("promise 2: what is far outside is refused", ProgramTest::farOutside);
        Check.test("promise 2: the fields' ranges are those of every operation", ProgramTest::rangesOfEveryOperation);
        Check.test("promise 2: the 24th is taken", ProgramTest::the24thIsTaken);
        Check.test("promise 2: IllegalStateException when there are 24", ProgramTest::the25thIsRefused);
        Check.test("promise 2: IllegalArgumentException first, when there are 24", ProgramTest::wrong25thIsRefused);
        Check.test("promise 2: the fields are kept as they are", ProgramTest::fieldsAreKept);
        Check.test("promise 2: there is no code any more", ProgramTest::addDropsTheCode);
        Check.test("promise 2: the latest runs stay", ProgramTest::addKeepsRuns);
    }

    private static void clear() {
        Check.test("promise 3: without a program it had 0", ProgramTest::clearOfNothing);
        Check.test("promise 3: it had 1", () -> clearAnswers(1));
        Check.test("promise 3: it had 24", () -> clearAnswers(24));
        Check.test("promise 3: the program goes", ProgramTest::clearDropsTheProgram);
        Check.test("promise 3: the code goes", ProgramTest::clearDropsTheCode);
        Check.test("promise 3: the code of an empty program goes", ProgramTest::clearDropsTheCodeOfNothing);
        Check.test("promise 3: behind it 24 are taken again", ProgramTest::roomAgain);
        Check.test("promise 3: start values stay", ProgramTest::clearKeepsStarts);
        Check.test("promise 3: the latest runs stay", ProgramTest::clearKeepsRuns);
    }

    private static void noProgram() {
        Check.due("clear()", new TwoMachines().clear(), 0);
        Check.due("add(0, 0, 0, 0)", new TwoMachines().add(0, 0, 0, 0), 0);
        Check.due("run(0, 5)", new TwoMachines().run(0, 5), 0);
    }

    private static void hasNoCode(TwoMachines x) {
        Check.due("size()", x.size(), 0);
        Check.refused("code(0, 0)", NoSuchElementException.class, () -> x.code(0, 0));
        Check.refused("begins(0)", NoSuchElementException.class, () -> x.begins(0));
        Check.refused("run(1, 5)", IllegalStateException.class, () -> x.run(1, 5));
    }

    private static void startValuesAre0() {
        TwoMachines x = new TwoMachines();
        Check.onBoth(x, m -> {
            Check.due("registers of machine " + m, Check.registersOf(x, m), "0 0 0 0 0 0 0 0");
            Check.due("data of machine " + m, Check.dataOf(x, m), Check.dataWith());
        });
    }

    private static void noRun() {
        TwoMachines x = new TwoMachines();
        for (int machine = 0; machine < 2; machine++) {
            for (int what = 0; what <= 11; what++) {
                Check.due("result(" + machine + ", " + what + ")", x.result(machine, what), 0);
            }
            Check.due("data of machine " + machine, Check.dataOf(x, machine), Check.dataWith());
            int m = machine;
            Check.refused("access(" + m + ", 0, 0)", NoSuchElementException.class, () -> x.access(m, 0, 0));
        }
    }

    private static void objectsAreApart() {
        TwoMachines x = Check.translated("ADDN 1 0 1; STORE 1 0 3");
        x.register(3, 5);
        x.data(2, 5);
        x.run(0, 5);
        x.run(1, 50);
        noProgram();
        hasNoCode(new TwoMachines());
        startValuesAre0();
        noRun();
    }

    private static void addAnswersPlaces() {
        TwoMachines x = new TwoMachines();
        for (int i = 0; i < 24; i++) {
            Check.due("add number " + i, x.add(i % 16, i % 8, (i + 3) % 8, i - 12), i);
        }
    }

    private static void isTaken(int operation, int a, int b, int c) {
        TwoMachines x = new TwoMachines();
        Check.due("add", x.add(operation, a, b, c), 0);
        Check.due("clear()", x.clear(), 1);
    }

    private static void isRefused(int operation, int a, int b, int c) {
        TwoMachines x = new TwoMachines();
        Check.refused("add", IllegalArgumentException.class, () -> x.add(operation, a, b, c));
        Check.due("clear()", x.clear(), 0);
    }

    private static void farOutside() {
        for (int far : Check.FAR_OUTSIDE) {
            isRefused(far, 1, 1, 1);
            isRefused(5, far, 1, 1);
            isRefused(5, 1, far, 1);
            isRefused(5, 1, 1, far);
            isRefused(far, far, far, far);
        }
    }

    private static void rangesOfEveryOperation() {
        for (int operation = 0; operation <= 15; operation++) {
            isTaken(operation, 0, 0, -128);
            isTaken(operation, 7, 7, 127);
            isRefused(operation, -1, 0, 0);
            isRefused(operation, 8, 0, 0);
            isRefused(operation, 0, -1, 0);
            isRefused(operation, 0, 8, 0);
            isRefused(operation, 0, 0, -129);
            isRefused(operation, 0, 0, 128);
        }
    }

    private static TwoMachines full() {
        return Check.translated(Check.times(24, "ADDN 1 1 1"));
    }

    private static void the24thIsTaken() {
        TwoMachines x = Check.desk(Check.times(23, "ADDN 1 1 1"));
        Check.due("the 24th add", x.add(5, 1, 1, 1), 23);
        Check.due("done", x.run(0, 100), 24);
        Check.due("register 1", x.result(0, 1), 24);
    }

    private static void the25thIsRefused() {
        TwoMachines x = full();
        Check.refused("the 25th add", IllegalStateException.class, () -> x.add(5, 1, 1, 1));
        Check.refused("the 25th add once more", IllegalStateException.class, () -> x.add(0, 0, 0, 0));
        Check.due("the code stays", x.size(), 25);
        Check.due("24 are done", x.run(0, 100), 24);
        Check.due("clear()", x.clear(), 24);
    }

    private static void wrong25thIsRefused() {
        TwoMachines x = full();
        Check.refused("a wrong operation", IllegalArgumentException.class, () -> x.add(16, 1, 1, 1));
        Check.refused("a wrong A", IllegalArgumentException.class, () -> x.add(5, 8, 1, 1));
        Check.refused("a wrong B", IllegalArgumentException.class, () -> x.add(5, 1, -1, 1));
        Check.refused("a wrong C", IllegalArgumentException.class, () -> x.add(5, 1, 1, 128));
        Check.due("the code stays", x.size(), 25);
        Check.due("clear()", x.clear(), 24);
    }

    private static void fieldsAreKept() {
        TwoMachines x = Check.translated("ADDN 3 2 -128; ADDN 1 3 127; STORE 2 1 31");
        Check.due("the code", Check.codeOf(x), "ADDN 3 2 -128; ADDN 1 3 127; ADDN 5 1 31; ADDN 4 0 32; ABOVE 5 4 6; "
            + "STORE 2 5 0; STOP 0 0 1");
    }

    private static void addDropsTheCode() {
        TwoMachines x = Check.translated("ADDN 1 0 1");
        Check.due("size() with code", x.size(), 2);
        x.add(0, 0, 0, 0);
        hasNoCode(x);
        Check.due("translate()", x.translate(), 0);
        Check.due("size() with new code", x.size(), 3);
    }

    private static void addKeepsRuns() {
        TwoMachines x = Check.translated("ADDN 1 0 1; STORE 1 0 3");
        x.run(0, 50);
        x.run(1, 50);
        String before = Check.stateOf(x, 0) + Check.stateOf(x, 1);
        x.add(0, 0, 0, 0);
        Check.due("the latest runs", Check.stateOf(x, 0) + Check.stateOf(x, 1), before);
    }

    private static void clearOfNothing() {
        TwoMachines x = new TwoMachines();
        Check.due("clear()", x.clear(), 0);
        Check.due("clear() again", x.clear(), 0);
    }

    private static void clearAnswers(int count) {
        TwoMachines x = Check.desk(Check.times(count, "HALT"));
        Check.due("clear()", x.clear(), count);
        Check.due("clear() again", x.clear(), 0);
    }

    private static void clearDropsTheProgram() {
        TwoMachines x = Check.desk("ADDN 1 0 1; HALT");
        x.clear();
        Check.due("run(0, 9)", x.run(0, 9), 0);
        Check.due("the end", Check.endOf(x, 0), "[2, 0, 0, 0]");
        Check.due("the first place again", x.add(0, 0, 0, 0), 0);
        Check.due("run(0, 9)", x.run(0, 9), 1);
    }

    private static void clearDropsTheCode() {
        TwoMachines x = Check.translated("ADDN 1 0 1; HALT");
        x.clear();
        hasNoCode(x);
    }

    private static void clearDropsTheCodeOfNothing() {
        TwoMachines x = new TwoMachines();
        x.translate();
        Check.due("size() of nothing", x.size(), 1);
        Check.due("clear()", x.clear(), 0);
        hasNoCode(x);
    }

    private static void roomAgain() {
        TwoMachines x = Check.desk(Check.times(24, "HALT"));
        x.clear();
        for (int i = 0; i < 24; i++) {
            Check.due("add number " + i, x.add(5, 1, 1, 1), i);
        }
        Check.refused("the 25th add", IllegalStateException.class, () -> x.add(5, 1, 1, 1));
    }

    private static void clearKeepsStarts() {
        TwoMachines x = Check.desk("ADDN 2 1 1; STORE 2 0 6");
        x.register(1, 11);
        x.register(7, 77);
        x.data(5, 7);
        x.run(0, 9);
        x.clear();
        Check.onBoth(x, m -> {
            Check.due("registers of machine " + m, Check.registersOf(x, m), "0 11 0 0 0 0 0 77");
            Check.due("data of machine " + m, Check.dataOf(x, m), Check.dataWith(5, 7));
        });
    }

    private static void clearKeepsRuns() {
        TwoMachines x = Check.translated("ADDN 4 0 1; STORE 4 0 3; HALT");
        x.run(0, 50);
        x.run(1, 50);
        String before = Check.stateOf(x, 0) + Check.stateOf(x, 1);
        x.clear();
        Check.due("the latest runs", Check.stateOf(x, 0) + Check.stateOf(x, 1), before);
    }
}
