/** Promises 8 and 9: register and data. */
public final class StartTest {
    private static final int[] NO_NUMBERS = {-32769, 32768, Integer.MIN_VALUE, Integer.MAX_VALUE, 65535};

    public static void main(String[] args) {
        registersStart();
        dataStart();
        lateStartsWait();
        startsOutliveRuns();
        wrongRegisters();
        wrongData();
        codeStays();
        Check.finish();
    }

    private static TwoMachines translatedHalt() {
        TwoMachines x = Check.desk(0, 0, 0, 0);
        x.translate();
        return x;
    }

    private static void registersStart() {
        TwoMachines x = translatedHalt();
        int[] starts = {0, 32767, -32768, 1, -1, 255, 24, -300};
        for (int r = 1; r <= 7; r++) {
            x.register(r, starts[r]);
        }
        for (int machine = 0; machine < 2; machine++) {
            x.run(machine, 5);
            Check.due("registers of " + machine, Check.registersOf(x, machine), "0 32767 -32768 1 -1 255 24 -300");
            x.run(machine, 0);
            Check.due("registers of an empty run", Check.registersOf(x, machine), "0 32767 -32768 1 -1 255 24 -300");
        }
        x.register(7, 0);
        x.register(1, 2);
        x.run(0, 5);
        Check.due("registers set again", Check.registersOf(x, 0), "0 2 -32768 1 -1 255 24 0");
    }

    private static void dataStart() {
        TwoMachines x = translatedHalt();
        x.data(0, -32768);
        x.data(31, 32767);
        x.data(16, -5);
        x.data(16, 5);
        String want = "-32768 " + "0 ".repeat(15) + "5 " + "0 ".repeat(14) + "32767 ";
        for (int machine = 0; machine < 2; machine++) {
            x.run(machine, 5);
            Check.due("data of " + machine, Check.dataOf(x, machine), want);
            Check.due("starting is no access", x.result(machine, 11), 0);
        }
    }

    private static void lateStartsWait() {
        TwoMachines x = translatedHalt();
        x.register(2, 9);
        x.data(2, 9);
        for (int machine = 0; machine < 2; machine++) {
            Check.due("result before a run of " + machine, x.result(machine, 2), 0);
            Check.due("cell before a run of " + machine, x.cell(machine, 2), 0);
            x.run(machine, 1);
        }
        x.register(2, 8);
        x.data(2, 8);
        for (int machine = 0; machine < 2; machine++) {
            Check.due("result of the latest run of " + machine, x.result(machine, 2), 9);
            Check.due("cell of the latest run of " + machine, x.cell(machine, 2), 9);
        }
    }

    private static void startsOutliveRuns() {
        TwoMachines x = Check.desk(5, 5, 5, 1, 8, 5, 0, 4, 5, 1, 1, 3);
        x.register(5, 10);
        x.register(1, 1);
        x.data(4, -1);
        x.translate();
        for (int time = 0; time < 2; time++) {
            for (int machine = 0; machine < 2; machine++) {
                x.run(machine, 100);
                Check.due("register 1", x.result(machine, 1), 4);
                Check.due("register 5", x.result(machine, 5), 11);
                Check.due("cell 4", x.cell(machine, 4), 11);
                x.run(machine, 0);
                Check.due("register 5 at first", x.result(machine, 5), 10);
                Check.due("cell 4 at first", x.cell(machine, 4), -1);
            }
        }
    }

    private static void wrongRegisters() {
        TwoMachines x = translatedHalt();
        x.register(7, 70);
        for (int r : new int[] {0, -1, 8, Integer.MIN_VALUE, Integer.MAX_VALUE}) {
            Check.refused("register(" + r + ", 1)", IllegalArgumentException.class, () -> x.register(r, 1));
        }
        for (int v : NO_NUMBERS) {
            Check.refused("register(7, " + v + ")", IllegalArgumentException.class, () -> x.register(7, v));
            Check.refused("register(0, " + v + ")", IllegalArgumentException.class, () -> x.register(0, v));
        }
        x.run(0, 1);
        Check.due("refused starts change nothing", Check.registersOf(x, 0), "0 0 0 0 0 0 0 70");
    }

    private static void wrongData() {
        TwoMachines x = translatedHalt();
        x.data(31, 70);
        for (int a : new int[] {-1, 32, 40, Integer.MIN_VALUE, Integer.MAX_VALUE}) {
            Check.refused("data(" + a + ", 1)", IllegalArgumentException.class, () -> x.data(a, 1));
        }
        for (int v : NO_NUMBERS) {
            Check.refused("data(31, " + v + ")", IllegalArgumentException.class, () -> x.data(31, v));
        }
        x.run(0, 1);
        Check.due("refused starts change no cell", Check.dataOf(x, 0), "0 ".repeat(31) + "70 ");
    }

    private static void codeStays() {
        TwoMachines x = translatedHalt();
        x.register(1, 1);
        x.data(1, 1);
        Check.due("the code stays", Check.codeOf(x), "0 0 0 0; 0 0 0 1");
    }
}
