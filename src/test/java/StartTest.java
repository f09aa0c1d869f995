/** Promises 8 and 9: register and data. */
public final class StartTest {
    public static void main(String[] args) {
        register();
        data();
        Check.finish();
    }

    private static void register() {
        Check.test("promise 8: register 1 starts with v", () -> registerStarts(1, "0 5 0 0 0 0 0 0"));
        Check.test("promise 8: register 3 starts with v", () -> registerStarts(3, "0 0 0 5 0 0 0 0"));
        Check.test("promise 8: register 4 starts with v", () -> registerStarts(4, "0 0 0 0 5 0 0 0"));
        Check.test("promise 8: register 7 starts with v", () -> registerStarts(7, "0 0 0 0 0 0 0 5"));
        Check.test("promise 8: register 0 is none of these", () -> wrongRegister(0));
        Check.test("promise 8: register -1 is none of these", () -> wrongRegister(-1));
        Check.test("promise 8: register 8 is none of these", () -> wrongRegister(8));
        Check.test("promise 8: a register far outside is none of these", () -> {
            wrongRegister(Integer.MIN_VALUE);
            wrongRegister(Integer.MAX_VALUE);
        });
        Check.test("promise 8: v may be -32768", () -> registerTakes(-32768));
        Check.test("promise 8: v may be 32767", () -> registerTakes(32767));
        Check.test("promise 8: -32769 is no number", () -> registerRefuses(-32769));
        Check.test("promise 8: 32768 is no number", () -> registerRefuses(32768));
        Check.test("promise 8: far outside is no number", () -> {
            registerRefuses(Integer.MIN_VALUE);
            registerRefuses(Integer.MAX_VALUE);
        });
        Check.test("promise 8: both wrong", () -> {
            TwoMachines x = new TwoMachines();
            Check.refused("register(0, 32768)", IllegalArgumentException.class, () -> x.register(0, 32768));
            Check.refused("register(8, -32769)", IllegalArgumentException.class, () -> x.register(8, -32769));
        });
        Check.test("promise 8: the later v of two", StartTest::registerAgain);
        Check.test("promise 8: only later runs start with it", StartTest::registerWaits);
        Check.test("promise 8: the code stays", StartTest::registerKeepsTheCode);
    }

    private static void data() {
        Check.test("promise 9: cell 0 starts with v", () -> dataStarts(0));
        Check.test("promise 9: cell 31 starts with v", () -> dataStarts(31));
        Check.test("promise 9: there is no cell -1", () -> wrongCell(-1));
        Check.test("promise 9: there is no cell 32", () -> wrongCell(32));
        Check.test("promise 9: there is no cell where the target keeps a register", () -> wrongCell(36));
        Check.test("promise 9: there is no cell far outside", () -> {
            wrongCell(Integer.MIN_VALUE);
            wrongCell(Integer.MAX_VALUE);
        });
        Check.test("promise 9: v may be -32768", () -> dataTakes(-32768));
        Check.test("promise 9: v may be 32767", () -> dataTakes(32767));
        Check.test("promise 9: -32769 is no number", () -> dataRefuses(-32769));
        Check.test("promise 9: 32768 is no number", () -> dataRefuses(32768));
        Check.test("promise 9: far outside is no number", () -> {
            dataRefuses(Integer.MIN_VALUE);
            dataRefuses(Integer.MAX_VALUE);
        });
        Check.test("promise 9: both wrong", () -> {
            TwoMachines x = new TwoMachines();
            Check.refused("data(32, 32768)", IllegalArgumentException.class, () -> x.data(32, 32768));
            Check.refused("data(-1, -32769)", IllegalArgumentException.class, () -> x.data(-1, -32769));
        });
        Check.test("promise 9: the later v of two", StartTest::dataAgain);
        Check.test("promise 9: only later runs start with it", StartTest::dataWaits);
        Check.test("promise 9: the code stays", StartTest::dataKeepsTheCode);
        Check.test("promise 9: starting is no access", StartTest::dataIsNoAccess);
    }

    private static void registerStarts(int r, String want) {
        TwoMachines x = Check.desk("HALT");
        x.register(r, 5);
        Check.dueRegisters(x, want);
    }

    private static void wrongRegister(int r) {
        TwoMachines x = Check.desk("HALT");
        Check.refused("register(" + r + ", 5)", IllegalArgumentException.class, () -> x.register(r, 5));
        Check.dueRegisters(x, "0 0 0 0 0 0 0 0");
    }

    private static void registerTakes(int v) {
        TwoMachines x = Check.desk("HALT");
        x.register(2, v);
        x.register(6, v);
        Check.dueRegisters(x, "0 0 " + v + " 0 0 0 " + v + " 0");
    }

    private static void registerRefuses(int v) {
        TwoMachines x = Check.desk("HALT");
        x.register(2, 70);
        Check.refused("register(2, " + v + ")", IllegalArgumentException.class, () -> x.register(2, v));
        Check.dueRegisters(x, "0 0 70 0 0 0 0 0");
    }

    private static void registerAgain() {
        TwoMachines x = Check.desk("HALT");
        x.register(2, 1);
        x.register(2, -1);
        x.register(7, 1);
        x.register(7, 0);
        Check.dueRegisters(x, "0 0 -1 0 0 0 0 0");
    }

    private static void registerWaits() {
        TwoMachines x = Check.translated("HALT");
        x.register(2, 9);
        for (int machine = 0; machine < 2; machine++) {
            Check.due("before a run of machine " + machine, x.result(machine, 2), 0);
            x.run(machine, 1);
        }
        x.register(2, 8);
        for (int machine = 0; machine < 2; machine++) {
            Check.due("of the latest run of machine " + machine, x.result(machine, 2), 9);
            x.run(machine, 1);
            Check.due("of a later run of machine " + machine, x.result(machine, 2), 8);
        }
    }

    private static void registerKeepsTheCode() {
        TwoMachines x = Check.translated("HALT");
        x.register(1, 1);
        Check.due("the code", Check.codeOf(x), "STOP 0 0 0; STOP 0 0 1");
    }

    private static void dataStarts(int a) {
        TwoMachines x = Check.desk("HALT");
        x.data(a, 5);
        Check.onBoth(x, m -> Check.due("data of machine " + m, Check.dataOf(x, m), Check.dataWith(a, 5)));
    }

    private static void wrongCell(int a) {
        TwoMachines x = Check.desk("HALT");
        Check.refused("data(" + a + ", 5)", IllegalArgumentException.class, () -> x.data(a, 5));
        Check.onBoth(x, m -> {
            Check.due("data of machine " + m, Check.dataOf(x, m), Check.dataWith());
            Check.due("registers of machine " + m, Check.registersOf(x, m), "0 0 0 0 0 0 0 0");
        });
    }

    private static void dataTakes(int v) {
        TwoMachines x = Check.desk("HALT");
        x.data(16, v);
        Check.onBoth(x, m -> Check.due("cell 16 of machine " + m, x.cell(m, 16), v));
    }

    private static void dataRefuses(int v) {
        TwoMachines x = Check.desk("HALT");
        x.data(16, 70);
        Check.refused("data(16, " + v + ")", IllegalArgumentException.class, () -> x.data(16, v));
        Check.onBoth(x, m -> Check.due("cell 16 of machine " + m, x.cell(m, 16), 70));
    }

    private static void dataAgain() {
        TwoMachines x = Check.desk("HALT");
        x.data(16, -5);
        x.data(16, 5);
        x.data(17, 5);
        x.data(17, 0);
        Check.onBoth(x, m -> Check.due("data of machine " + m, Check.dataOf(x, m), Check.dataWith(16, 5)));
    }

    private static void dataWaits() {
        TwoMachines x = Check.translated("HALT");
        x.data(2, 9);
        for (int machine = 0; machine < 2; machine++) {
            Check.due("before a run of machine " + machine, x.cell(machine, 2), 0);
            x.run(machine, 1);
        }
        x.data(2, 8);
        for (int machine = 0; machine < 2; machine++) {
            Check.due("of the latest run of machine " + machine, x.cell(machine, 2), 9);
            x.run(machine, 1);
            Check.due("of a later run of machine " + machine, x.cell(machine, 2), 8);
        }
    }

    private static void dataKeepsTheCode() {
        TwoMachines x = Check.translated("HALT");
        x.data(1, 1);
        Check.due("the code", Check.codeOf(x), "STOP 0 0 0; STOP 0 0 1");
    }

    private static void dataIsNoAccess() {
        TwoMachines x = Check.desk("HALT");
        x.data(3, 3);
        Check.dueAccesses(x, "");
    }
}
