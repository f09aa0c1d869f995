import java.util.NoSuchElementException;

/** Promises 10 to 13: run, result, cell, access. */
public final class RunTest {
    public static void main(String[] args) {
        run();
        result();
        cell();
        access();
        Check.finish();
    }

    private static void run() {
        Check.test("promise 10: machine 0 is the source", RunTest::machine0);
        Check.test("promise 10: machine 1 is the target", RunTest::machine1);
        Check.test("promise 10: machine -1 is neither", () -> wrongMachine(-1));
        Check.test("promise 10: machine 2 is neither", () -> wrongMachine(2));
        Check.test("promise 10: a machine far outside is neither", () -> {
            wrongMachine(Integer.MIN_VALUE);
            wrongMachine(Integer.MAX_VALUE);
        });
        Check.test("promise 10: limit 0 is taken", () -> limitIsTaken(0));
        Check.test("promise 10: limit 2000 is taken", () -> limitIsTaken(2000));
        Check.test("promise 10: limit -1 is refused", () -> limitIsRefused(-1));
        Check.test("promise 10: limit 2001 is refused", () -> limitIsRefused(2001));
        Check.test("promise 10: a limit far outside is refused", () -> {
            limitIsRefused(Integer.MIN_VALUE);
            limitIsRefused(Integer.MAX_VALUE);
        });
        Check.test("promise 10: IllegalStateException before there was code", () -> noCode(Check.desk("HALT")));
        Check.test("promise 10: IllegalStateException behind a refused translate", RunTest::noCodeBehindRefusal);
        Check.test("promise 10: IllegalStateException behind add", RunTest::noCodeBehindAdd);
        Check.test("promise 10: IllegalStateException behind clear", RunTest::noCodeBehindClear);
        Check.test("promise 10: the source runs without code", RunTest::sourceWithoutCode);
        Check.test("promise 10: IllegalArgumentException first", RunTest::runWrongTwice);
    }

    private static void result() {
        Check.test("promise 11: all 0 before the first run of a machine", RunTest::resultsBefore);
        Check.test("promise 11: what = 0 .. 7 the registers", RunTest::registers);
        Check.test("promise 11: what = 8 is 0 without an end", () -> endIs("JUMP; ADDN 1 1 1", 0));
        Check.test("promise 11: what = 8 is 1 at HALT", () -> endIs("HALT", 1));
        Check.test("promise 11: what = 8 is 2 at a FAULT", () -> endIs("ADDN 1 1 1", 2));
        Check.test("promise 11: what = 9 is the place of HALT", () -> placeIs("ADD 4 4 4; HALT; HALT", 1, 4));
        Check.test("promise 11: what = 9 is the place of a fault", () -> placeIs("ADD 4 4 4; LOAD 1 0 32; HALT", 1, 9));
        Check.test("promise 11: what = 9 is the next place, where it came to no end", RunTest::nextPlace);
        Check.test("promise 11: what = 10 is how many were done", RunTest::howManyWereDone);
        Check.test("promise 11: what = 11 is how many accesses were kept", RunTest::howManyWereKept);
        Check.test("promise 11: NONE for what = -1", () -> noSuchWhat(-1));
        Check.test("promise 11: NONE for what = 12", () -> noSuchWhat(12));
        Check.test("promise 11: NONE for what far outside", () -> {
            noSuchWhat(Integer.MIN_VALUE);
            noSuchWhat(Integer.MAX_VALUE);
        });
        Check.test("promise 11: NONE for machine -1", () -> noneOfMachine(-1));
        Check.test("promise 11: NONE for machine 2", () -> noneOfMachine(2));
        Check.test("promise 11: NONE for a machine far outside", () -> {
            noneOfMachine(Integer.MIN_VALUE);
            noneOfMachine(Integer.MAX_VALUE);
        });
        Check.test("promise 11: of the latest run of that machine", RunTest::latestRunOfEach);
    }

    private static void cell() {
        Check.test("promise 12: cell 0", () -> cellIs(0));
        Check.test("promise 12: cell 31", () -> cellIs(31));
        Check.test("promise 12: there is no cell -1", () -> noSuchCell(-1));
        Check.test("promise 12: there is no cell 32, of the target either", () -> noSuchCell(32));
        Check.test("promise 12: there is no cell 63, of the target either", () -> noSuchCell(63));
        Check.test("promise 12: there is no cell far outside", () -> {
            noSuchCell(Integer.MIN_VALUE);
            noSuchCell(Integer.MAX_VALUE);
        });
        Check.test("promise 12: there is no machine -1", () -> noCellOfMachine(-1));
        Check.test("promise 12: there is no machine 2", () -> noCellOfMachine(2));
        Check.test("promise 12: there is no machine far outside", () -> {
            noCellOfMachine(Integer.MIN_VALUE);
            noCellOfMachine(Integer.MAX_VALUE);
        });
        Check.test("promise 12: 0 before the first run of a machine", RunTest::cellsBefore);
    }

    private static void access() {
        Check.test("promise 13: what = 0 the cell, 1 whether it was written, 2 the number", RunTest::accessSays);
        Check.test("promise 13: what = -1 there is not", () -> wrongWhat(-1));
        Check.test("promise 13: what = 3 there is not", () -> wrongWhat(3));
        Check.test("promise 13: what far outside there is not", () -> {
            wrongWhat(Integer.MIN_VALUE);
            wrongWhat(Integer.MAX_VALUE);
        });
        Check.test("promise 13: machine -1 there is not", () -> noAccessOfMachine(-1));
        Check.test("promise 13: machine 2 there is not", () -> noAccessOfMachine(2));
        Check.test("promise 13: a machine far outside there is not", () -> {
            noAccessOfMachine(Integer.MIN_VALUE);
            noAccessOfMachine(Integer.MAX_VALUE);
        });
        Check.test("promise 13: there is no access -1", () -> noSuchAccess(-1));
        Check.test("promise 13: there is none behind the last that was kept", () -> noSuchAccess(2));
        Check.test("promise 13: there is none far outside", () -> {
            noSuchAccess(40);
            noSuchAccess(1 << 30);
            noSuchAccess(Integer.MIN_VALUE);
            noSuchAccess(Integer.MAX_VALUE);
        });
        Check.test("promise 13: access 39 may be, and access 40 not", RunTest::lastAccess);
        Check.test("promise 13: there is none before the first run of a machine", RunTest::accessBefore);
        Check.test("promise 13: there is none of a longer run before", RunTest::accessOfAShorterRun);
        Check.test("promise 13: IllegalArgumentException first", RunTest::accessWrongTwice);
    }

    private static void machine0() {
        TwoMachines x = Check.translated("ADD 4 4 4; HALT");
        Check.due("run(0, 50)", x.run(0, 50), 2);
        Check.due("the source's done", x.result(0, 10), 2);
        Check.due("the target's done", x.result(1, 10), 0);
    }

    private static void machine1() {
        TwoMachines x = Check.translated("ADD 4 4 4; HALT");
        Check.due("run(1, 50)", x.run(1, 50), 5);
        Check.due("the target's done", x.result(1, 10), 5);
        Check.due("the source's done", x.result(0, 10), 0);
    }

    private static void wrongMachine(int machine) {
        TwoMachines x = Check.translated("HALT");
        Check.refused("run(" + machine + ", 5)", IllegalArgumentException.class, () -> x.run(machine, 5));
    }

    private static void limitIsTaken(int limit) {
        TwoMachines x = Check.translated("JUMP; ADDN 1 1 1");
        Check.due("run(0, " + limit + ")", x.run(0, limit), limit);
        Check.due("run(1, " + limit + ")", x.run(1, limit), limit);
    }

    private static void limitIsRefused(int limit) {
        TwoMachines x = Check.translated("HALT");
        Check.refused("run(0, " + limit + ")", IllegalArgumentException.class, () -> x.run(0, limit));
        Check.refused("run(1, " + limit + ")", IllegalArgumentException.class, () -> x.run(1, limit));
    }

    private static void noCode(TwoMachines x) {
        Check.refused("run(1, 5)", IllegalStateException.class, () -> x.run(1, 5));
        Check.refused("run(1, 0)", IllegalStateException.class, () -> x.run(1, 0));
        Check.refused("run(1, 2000)", IllegalStateException.class, () -> x.run(1, 2000));
    }

    private static void noCodeBehindRefusal() {
        TwoMachines x = Check.desk("14");
        x.translate();
        noCode(x);
    }

    private static void noCodeBehindAdd() {
        TwoMachines x = Check.translated("HALT");
        x.add(0, 0, 0, 0);
        noCode(x);
    }

    private static void noCodeBehindClear() {
        TwoMachines x = Check.translated("HALT");
        x.clear();
        noCode(x);
    }

    private static void sourceWithoutCode() {
        Check.due("run(0, 5)", Check.desk("HALT").run(0, 5), 1);
        TwoMachines x = Check.desk("ADDN 1 0 1; 14");
        x.translate();
        Check.due("run(0, 5) of what is refused", x.run(0, 5), 1);
    }

    private static void runWrongTwice() {
        TwoMachines x = Check.desk("HALT");
        Check.refused("run(1, -1) without code", IllegalArgumentException.class, () -> x.run(1, -1));
        Check.refused("run(1, 2001) without code", IllegalArgumentException.class, () -> x.run(1, 2001));
        Check.refused("run(2, 5) without code", IllegalArgumentException.class, () -> x.run(2, 5));
    }

    private static void resultsBefore() {
        TwoMachines x = Check.translated("ADDN 1 1 1; LOAD 4 0 3; HALT");
        x.register(1, 5);
        x.register(4, 5);
        x.data(3, 5);
        for (int machine = 0; machine < 2; machine++) {
            for (int what = 0; what <= 11; what++) {
                Check.due("result(" + machine + ", " + what + ")", x.result(machine, what), 0);
            }
        }
        x.run(0, 50);
        for (int what = 0; what <= 11; what++) {
            Check.due("result(1, " + what + ") behind a run of the source", x.result(1, what), 0);
        }
    }

    private static void registers() {
        TwoMachines x = Check.desk("HALT");
        for (int r = 1; r <= 7; r++) {
            x.register(r, 11 * r);
        }
        Check.onBoth(x, m -> {
            for (int r = 0; r <= 7; r++) {
                Check.due("result(" + m + ", " + r + ")", x.result(m, r), 11 * r);
            }
        });
    }

    private static void endIs(String program, int want) {
        TwoMachines x = Check.desk(program);
        Check.onBoth(x, m -> Check.due("result(" + m + ", 8)", x.result(m, 8), want));
    }

    private static void placeIs(String program, int ofTheSource, int ofTheTarget) {
        TwoMachines x = Check.desk(program);
        Check.onBoth(x, m -> Check.due("result(" + m + ", 9)", x.result(m, 9), m == 0 ? ofTheSource : ofTheTarget));
    }

    private static void nextPlace() {
        TwoMachines x = Check.translated("JUMP 0 0 3; ADDN 1 1 1; HALT; ADDN 2 2 1; HALT");
        int[][] want = {{0, 1, 3, 4}, {0, 1, 4, 5}};
        for (int machine = 0; machine < 2; machine++) {
            for (int limit = 0; limit <= 3; limit++) {
                x.run(machine, limit);
                Check.due("result(" + machine + ", 9) behind " + limit, x.result(machine, 9), want[machine][limit]);
            }
        }
    }

    private static void howManyWereDone() {
        TwoMachines x = Check.translated("ADDN 1 1 1; LOAD 1 0 32");
        Check.due("run(0, 50)", x.run(0, 50), 1);
        Check.due("result(0, 10)", x.result(0, 10), 1);
        Check.due("run(1, 50)", x.run(1, 50), 5);
        Check.due("result(1, 10)", x.result(1, 10), 5);
    }

    private static void howManyWereKept() {
        TwoMachines x = Check.desk("LOAD 1 0 0; STORE 1 0 1; LOAD 1 0 2; HALT");
        Check.onBoth(x, m -> Check.due("result(" + m + ", 11)", x.result(m, 11), 3));
    }

    private static void noSuchWhat(int what) {
        TwoMachines x = Check.desk("HALT");
        Check.due("result(0, " + what + ") before a run", x.result(0, what), TwoMachines.NONE);
        Check.due("result(1, " + what + ") before a run", x.result(1, what), TwoMachines.NONE);
        Check.onBoth(x, m -> Check.due("result(" + m + ", " + what + ")", x.result(m, what), TwoMachines.NONE));
    }

    private static void noneOfMachine(int machine) {
        TwoMachines x = Check.translated("HALT");
        x.run(0, 5);
        x.run(1, 5);
        for (int what = -1; what <= 12; what++) {
            Check.due("result(" + machine + ", " + what + ")", x.result(machine, what), TwoMachines.NONE);
        }
    }

    private static void latestRunOfEach() {
        TwoMachines x = Check.translated("ADDN 1 1 1; STORE 1 0 0; ADDN 4 4 1");
        x.run(0, 50);
        String source = Check.stateOf(x, 0);
        x.register(1, 5);
        x.run(1, 50);
        Check.due("the source's run stays", Check.stateOf(x, 0), source);
        Check.due("the target's registers", Check.registersOf(x, 1), "0 6 0 0 1 0 0 0");
        Check.due("the target's cell 0", x.cell(1, 0), 6);
        Check.due("the source's cell 0", x.cell(0, 0), 1);
        String target = Check.stateOf(x, 1);
        x.run(0, 1);
        Check.due("the target's run stays", Check.stateOf(x, 1), target);
        Check.due("the source's later run", Check.registersOf(x, 0), "0 6 0 0 0 0 0 0");
        Check.due("the source's later accesses", x.result(0, 11), 0);
    }

    private static void cellIs(int a) {
        TwoMachines x = Check.desk("STORE 1 0 " + a + "; HALT");
        x.register(1, 4);
        x.data(16, 16);
        Check.onBoth(x, m -> {
            Check.due("cell(" + m + ", " + a + ")", x.cell(m, a), 4);
            Check.due("cell(" + m + ", 16)", x.cell(m, 16), 16);
        });
    }

    private static void noSuchCell(int a) {
        TwoMachines x = Check.desk("HALT");
        Check.onBoth(x, m -> Check.refused("cell(" + m + ", " + a + ")", IllegalArgumentException.class,
            () -> x.cell(m, a)));
    }

    private static void noCellOfMachine(int machine) {
        TwoMachines x = Check.translated("HALT");
        x.run(0, 5);
        x.run(1, 5);
        for (int a : new int[] {-1, 0, 31, 32}) {
            Check.refused("cell(" + machine + ", " + a + ")", IllegalArgumentException.class, () -> x.cell(machine, a));
        }
    }

    private static void cellsBefore() {
        TwoMachines x = Check.translated("HALT");
        x.data(0, 5);
        x.data(31, 5);
        for (int machine = 0; machine < 2; machine++) {
            Check.due("cell(" + machine + ", 0)", x.cell(machine, 0), 0);
            Check.due("cell(" + machine + ", 31)", x.cell(machine, 31), 0);
        }
        x.run(0, 5);
        Check.due("cell(0, 31) behind a run of the source", x.cell(0, 31), 5);
        Check.due("cell(1, 31) behind a run of the source", x.cell(1, 31), 0);
    }

    private static TwoMachines twoAccesses() {
        TwoMachines x = Check.desk("LOAD 1 0 31; STORE 2 0 5; HALT");
        x.data(31, -7);
        x.register(2, 9);
        return x;
    }

    private static void accessSays() {
        TwoMachines x = twoAccesses();
        Check.onBoth(x, m -> {
            Check.due("access(" + m + ", 0, 0)", x.access(m, 0, 0), 31);
            Check.due("access(" + m + ", 0, 1)", x.access(m, 0, 1), 0);
            Check.due("access(" + m + ", 0, 2)", x.access(m, 0, 2), -7);
            Check.due("access(" + m + ", 1, 0)", x.access(m, 1, 0), 5);
            Check.due("access(" + m + ", 1, 1)", x.access(m, 1, 1), 1);
            Check.due("access(" + m + ", 1, 2)", x.access(m, 1, 2), 9);
        });
    }

    private static void wrongWhat(int what) {
        TwoMachines x = twoAccesses();
        Check.onBoth(x, m -> {
            for (int k = 0; k < 2; k++) {
                int access = k;
                Check.refused("access(" + m + ", " + k + ", " + what + ")", IllegalArgumentException.class,
                    () -> x.access(m, access, what));
            }
        });
    }

    private static void noAccessOfMachine(int machine) {
        TwoMachines x = twoAccesses();
        Check.onBoth(x, m -> Check.refused("access(" + machine + ", 0, 0)", IllegalArgumentException.class,
            () -> x.access(machine, 0, 0)));
    }

    private static void noSuchAccess(int k) {
        TwoMachines x = twoAccesses();
        Check.onBoth(x, m -> {
            for (int what = 0; what <= 2; what++) {
                int w = what;
                Check.refused("access(" + m + ", " + k + ", " + w + ")", NoSuchElementException.class,
                    () -> x.access(m, k, w));
            }
        });
    }

    private static void lastAccess() {
        TwoMachines x = Check.desk("JUMP; LOAD 1 0 3");
        x.data(3, 8);
        Check.onBoth(x, m -> {
            Check.due("access(" + m + ", 39, 2)", x.access(m, 39, 2), 8);
            Check.refused("access(" + m + ", 40, 2)", NoSuchElementException.class, () -> x.access(m, 40, 2));
        });
    }

    private static void accessBefore() {
        TwoMachines x = twoAccesses();
        x.translate();
        Check.refused("access(0, 0, 0)", NoSuchElementException.class, () -> x.access(0, 0, 0));
        x.run(0, 50);
        Check.refused("access(1, 0, 0) behind a run of the source", NoSuchElementException.class,
            () -> x.access(1, 0, 0));
    }

    private static void accessOfAShorterRun() {
        TwoMachines x = twoAccesses();
        Check.onBoth(x, m -> {
            x.run(m, m == 0 ? 1 : 4);
            Check.due("access(" + m + ", 0, 0)", x.access(m, 0, 0), 31);
            Check.refused("access(" + m + ", 1, 0)", NoSuchElementException.class, () -> x.access(m, 1, 0));
        });
    }

    private static void accessWrongTwice() {
        TwoMachines x = twoAccesses();
        Check.refused("access(2, 0, 0) before a run", IllegalArgumentException.class, () -> x.access(2, 0, 0));
        Check.refused("access(0, 0, 3) before a run", IllegalArgumentException.class, () -> x.access(0, 0, 3));
        Check.onBoth(x, m -> {
            Check.refused("access(" + m + ", 2, 3)", IllegalArgumentException.class, () -> x.access(m, 2, 3));
            Check.refused("access(" + m + ", -1, -1)", IllegalArgumentException.class, () -> x.access(m, -1, -1));
            Check.refused("access(-1, 2, 0)", IllegalArgumentException.class, () -> x.access(-1, 2, 0));
            Check.refused("access(2, -1, 0)", IllegalArgumentException.class, () -> x.access(2, -1, 0));
        });
    }
}
