import java.util.NoSuchElementException;

/** Promises 10 to 13: run, result, cell, access. */
public final class RunTest {
    public static void main(String[] args) {
        calculations();
        registerZero();
        cells();
        forks();
        jumps();
        branchesInSlots();
        faults();
        targetsFaultsAreDone();
        limits();
        firstAccessesAreKept();
        runsAreApart();
        runRefuses();
        resultAnswersNone();
        cellRefuses();
        accessRefuses();
        Check.finish();
    }

    /** Both machines do the one instruction on registers 1 and 2, and on 5 and 6; what becomes of 3 and 7. */
    private static void calculation(int operation, int left, int right, int want) {
        TwoMachines x = Check.desk(operation, 3, 1, 2, operation, 7, 5, 6);
        x.register(1, left);
        x.register(5, left);
        x.register(2, right);
        x.register(6, right);
        x.translate();
        for (int machine = 0; machine < 2; machine++) {
            String call = "operation " + operation + " of " + left + " and " + right + " on " + machine;
            x.run(machine, 50);
            Check.due(call, x.result(machine, 3), want);
            Check.due(call, x.result(machine, 7), want);
        }
    }

    private static void withNumber(int operation, int left, int c, int want) {
        TwoMachines x = Check.desk(operation, 3, 1, c, operation, 7, 5, c);
        x.register(1, left);
        x.register(5, left);
        x.translate();
        for (int machine = 0; machine < 2; machine++) {
            String call = "operation " + operation + " of " + left + " and the number " + c + " on " + machine;
            x.run(machine, 50);
            Check.due(call, x.result(machine, 3), want);
            Check.due(call, x.result(machine, 7), want);
        }
    }

    private static void calculations() {
        calculation(1, 20, 22, 42);
        calculation(1, 32767, 1, -32768);
        calculation(1, -32768, -32768, 0);
        calculation(1, -32768, -1, 32767);
        calculation(2, 20, 22, -2);
        calculation(2, -32768, 1, 32767);
        calculation(2, 0, -32768, -32768);
        calculation(2, 32767, -32768, -1);
        calculation(3, 12, 10, 8);
        calculation(3, -1, -32768, -32768);
        calculation(3, -2, 32767, 32766);
        calculation(4, 1, 2, 1);
        calculation(4, 2, 2, 0);
        calculation(4, 3, 2, 0);
        calculation(4, -32768, 32767, 1);
        calculation(4, 32767, -32768, 0);
        calculation(4, -1, 0, 1);
        withNumber(5, 100, 27, 127);
        withNumber(5, 32767, 127, -32642);
        withNumber(5, -32768, -128, 32640);
        withNumber(6, 7, 2, 512);
        withNumber(6, 7, -128, -32768);
        withNumber(6, 7, 127, 32512);
        withNumber(6, 7, -1, -256);
        TwoMachines x = Check.desk(1, 3, 1, -6, 1, 4, 1, 122);
        x.register(1, 5);
        x.register(2, 6);
        x.translate();
        for (int machine = 0; machine < 2; machine++) {
            x.run(machine, 50);
            Check.due("C is taken modulo 8 on " + machine, Check.registersOf(x, machine), "0 5 6 11 11 0 0 0");
        }
    }

    private static void registerZero() {
        TwoMachines x = Check.desk(5, 0, 0, 9, 6, 0, 0, 9, 7, 0, 0, 4, 1, 0, 1, 1, 1, 2, 0, 0, 8, 0, 0, 5, 5, 4, 0, 3);
        x.register(1, 5);
        x.register(2, 5);
        x.data(4, 44);
        x.data(5, 55);
        x.translate();
        for (int machine = 0; machine < 2; machine++) {
            x.run(machine, 50);
            Check.due("register 0 stays on " + machine, Check.registersOf(x, machine), "0 5 0 0 3 0 0 0");
            Check.due("accesses by register 0 on " + machine, Check.accessesOf(x, machine), "4 0 44; 5 1 0");
        }
    }

    private static void cells() {
        TwoMachines x = Check.desk(7, 1, 7, 1, 8, 7, 6, -2, 7, 5, 6, -2, 8, 1, 3, 1, 0, 0, 0, 0);
        x.register(7, 30);
        x.register(6, 2);
        x.register(3, 6);
        x.data(31, -9);
        x.translate();
        for (int machine = 0; machine < 2; machine++) {
            x.run(machine, 100);
            Check.due("registers on " + machine, Check.registersOf(x, machine), "0 -9 0 6 0 30 2 30");
            Check.due("accesses on " + machine, Check.accessesOf(x, machine), "31 0 -9; 0 1 30; 0 0 30; 7 1 -9");
            Check.due("data on " + machine, Check.dataOf(x, machine), "30 0 0 0 0 0 0 -9 " + "0 ".repeat(23) + "-9 ");
            Check.due("the end of " + machine, x.result(machine, 8), 1);
        }
    }

    /** SAME and OTHER lead, or do not, by what their registers are before the slot. */
    private static void forks() {
        for (int left = -1; left <= 1; left++) {
            for (int right = -1; right <= 1; right++) {
                for (int operation = 9; operation <= 10; operation++) {
                    fork(operation, left, right, (left == right) == (operation == 9));
                }
            }
        }
        fork(9, -32768, 32767, false);
        fork(10, 32767, -32768, true);
    }

    private static void fork(int operation, int left, int right, boolean leads) {
        TwoMachines x = Check.desk(operation, 1, 6, 2, 1, 1, 6, 0, 5, 2, 0, 1, 5, 3, 0, 1);
        x.register(1, left);
        x.register(6, right);
        x.translate();
        for (int machine = 0; machine < 2; machine++) {
            String call = "fork " + operation + " of " + left + " and " + right + " on " + machine;
            x.run(machine, 100);
            Check.due(call, x.result(machine, 2), leads ? 0 : 1);
            Check.due(call, x.result(machine, 3), 1);
            Check.due(call + ": the slot", x.result(machine, 1), right);
        }
        Check.due("done of fork " + operation, x.result(0, 10), leads ? 3 : 4);
    }

    private static void jumps() {
        TwoMachines x = Check.desk(11, 7, 7, 3, 5, 1, 1, 1, 5, 2, 0, 1, 12, 0, 0, 7, 5, 1, 7, 10, 5, 3, 0, 1,
            0, 0, 0, 0, 13, 7, 0, 0, 5, 7, 0, 77);
        x.translate();
        int[] done = {8, 17};
        for (int machine = 0; machine < 2; machine++) {
            Check.due("run(" + machine + ", 50)", x.run(machine, 50), done[machine]);
            Check.due("registers on " + machine, Check.registersOf(x, machine), "0 15 0 1 0 0 0 77");
            Check.due("the end of " + machine, x.result(machine, 8), 1);
            Check.due("place of " + machine, x.result(machine, 9), machine == 0 ? 6 : x.begins(6));
        }
    }

    private static void branchesInSlots() {
        TwoMachines x = Check.desk(11, 0, 0, 4, 11, 0, 0, 6, 5, 1, 0, 1, 0, 0, 0, 0, 5, 2, 2, 1, 5, 3, 0, 1, 0, 0, 0, 0);
        Check.due("one instruction of the first aim is done", x.run(0, 50), 4);
        Check.due("registers", Check.registersOf(x, 0), "0 0 1 0 0 0 0 0");
        Check.due("HERE", x.result(0, 9), 6);
        TwoMachines y = Check.desk(12, 0, 0, 4, 12, 0, 0, 2, 0, 0, 0, 0, 0, 0, 0, 0, 1, 1, 7, 0);
        y.run(0, 50);
        Check.due("LINK in a slot is by its own HERE", Check.registersOf(y, 0), "0 3 0 0 0 0 0 3");
        Check.due("HERE of HALT", y.result(0, 9), 2);
        TwoMachines z = Check.desk(11, 0, 0, 3, 0, 0, 0, 0);
        Check.due("HALT in a slot", z.run(0, 9), 2);
        Check.due("its place", z.result(0, 9), 1);
        TwoMachines w = Check.desk(9, 0, 0, 3, 10, 0, 0, 5, 0, 0, 0, 0, 0, 0, 0, 0, 5, 1, 0, 7, 0, 0, 0, 0);
        Check.due("a fork in a slot that does not lead goes on behind NEXT", w.run(0, 9), 4);
        Check.due("its place", w.result(0, 9), 5);
        Check.due("its register", w.result(0, 1), 7);
    }

    private static void sourceFault(String call, TwoMachines x, int done, int here) {
        Check.due(call + ": done", x.run(0, 50), done);
        Check.due(call + ": result(0, 8)", x.result(0, 8), 2);
        Check.due(call + ": result(0, 9)", x.result(0, 9), here);
        Check.due(call + ": result(0, 10)", x.result(0, 10), done);
    }

    private static void faults() {
        sourceFault("nothing", new TwoMachines(), 0, 0);
        sourceFault("behind the last", Check.desk(5, 1, 0, 1), 1, 1);
        sourceFault("operation 14", Check.desk(5, 1, 0, 1, 14, 1, 0, 1), 1, 1);
        sourceFault("operation 15", Check.desk(15, 1, 0, 1), 0, 0);
        sourceFault("JUMP -128", Check.desk(11, 0, 0, -128, 5, 1, 0, 1), 2, -128);
        sourceFault("JUMP to behind the last", Check.desk(11, 0, 0, 2, 5, 1, 0, 1), 2, 2);
        sourceFault("SAME to -2", Check.desk(9, 0, 0, -3, 5, 1, 0, 1), 2, -2);
        sourceFault("SAME to 128", Check.desk(9, 0, 0, 127, 5, 1, 0, 1), 2, 128);
        sourceFault("a branch without a slot", Check.desk(11, 0, 0, 0), 1, 1);
        for (int place : new int[] {32767, -32768, -1, 2, 24}) {
            TwoMachines x = Check.desk(13, 4, 0, 0, 5, 1, 0, 1);
            x.register(4, place);
            sourceFault("TO " + place, x, 2, place);
        }
        for (int b : new int[] {32, -1, 32767, -32768, 40}) {
            for (int operation = 7; operation <= 8; operation++) {
                TwoMachines x = Check.desk(5, 2, 0, 6, operation, 1, 3, 0, 5, 2, 0, 7);
                x.register(3, b);
                x.register(1, 99);
                sourceFault("cell " + b, x, 1, 1);
                Check.due("registers of cell " + b, Check.registersOf(x, 0), "0 99 6 " + b + " 0 0 0 0");
                Check.due("accesses of cell " + b, x.result(0, 11), 0);
                Check.due("data of cell " + b, Check.dataOf(x, 0), "0 ".repeat(32));
            }
        }
        TwoMachines x = Check.desk(7, 1, 2, 127, 0, 0, 0, 0);
        x.register(2, -127);
        Check.due("a number of a cell by a negative B", x.run(0, 9), 2);
        TwoMachines y = Check.desk(11, 0, 0, 0, 8, 0, 0, -1);
        sourceFault("a fault in a slot", y, 1, 1);
    }

    private static void targetsFaultsAreDone() {
        for (int b : new int[] {32, -1, 32767, -32768, 40}) {
            for (int operation = 7; operation <= 8; operation++) {
                TwoMachines x = Check.desk(operation, 1, 3, 0);
                x.register(3, b);
                x.register(1, 99);
                x.translate();
                Check.due("run(1, 50) with cell " + b, x.run(1, 50), 4);
                Check.due("result(1, 8)", x.result(1, 8), 2);
                Check.due("result(1, 9)", x.result(1, 9), 4);
                Check.due("result(1, 11)", x.result(1, 11), 0);
                Check.due("registers", Check.registersOf(x, 1), "0 99 0 " + b + " 0 0 0 0");
            }
        }
        TwoMachines x = new TwoMachines();
        x.translate();
        Check.due("the END alone", x.run(1, 9), 1);
        Check.due("its place", x.result(1, 9), 0);
        Check.due("its end", x.result(1, 8), 2);
    }

    private static void limits() {
        TwoMachines x = Check.desk(5, 1, 1, 1, 5, 1, 1, 1, 0, 0, 0, 0);
        x.translate();
        for (int machine = 0; machine < 2; machine++) {
            for (int limit = 0; limit <= 5; limit++) {
                String call = "run(" + machine + ", " + limit + ")";
                Check.due(call, x.run(machine, limit), Math.min(limit, 3));
                Check.due(call + ": done", x.result(machine, 10), Math.min(limit, 3));
                Check.due(call + ": end", x.result(machine, 8), limit < 3 ? 0 : 1);
                Check.due(call + ": place", x.result(machine, 9), Math.min(limit, 2));
                Check.due(call + ": register 1", x.result(machine, 1), Math.min(limit, 2));
            }
        }
        TwoMachines y = Check.desk(11, 0, 0, 0, 5, 1, 1, 1);
        y.translate();
        for (int machine = 0; machine < 2; machine++) {
            Check.due("run(" + machine + ", 2000)", y.run(machine, 2000), 2000);
            Check.due("it has not ended", y.result(machine, 8), 0);
            Check.due("its place", y.result(machine, 9), 0);
            Check.due("its register", y.result(machine, 1), 1000);
        }
        Check.due("run(0, 1)", y.run(0, 1), 1);
        Check.due("HERE in the slot", y.result(0, 9), 1);
        TwoMachines z = Check.desk(5, 1, 0, 1);
        z.run(0, 1);
        Check.due("a fault that is not come to", z.result(0, 8), 0);
        Check.due("its place", z.result(0, 9), 1);
    }

    private static void firstAccessesAreKept() {
        TwoMachines x = Check.desk(7, 2, 1, 0, 5, 2, 2, 1, 11, 0, 0, 0, 8, 2, 1, 0);
        x.translate();
        for (int machine = 0; machine < 2; machine++) {
            x.run(machine, 2000);
            Check.due("accesses kept of " + machine, x.result(machine, 11), 40);
            for (int k = 0; k < 40; k++) {
                String call = "access(" + machine + ", " + k + ", ..)";
                Check.due(call, x.access(machine, k, 0), 0);
                Check.due(call, x.access(machine, k, 1), k % 2);
                Check.due(call, x.access(machine, k, 2), (k + 1) / 2);
            }
            int m = machine;
            Check.refused("access 40", NoSuchElementException.class, () -> x.access(m, 40, 0));
            Check.due("later accesses are done", x.cell(machine, 0) > 20, true);
            x.run(machine, machine == 0 ? 4 : 9);
            Check.due("accesses kept of a shorter run of " + machine, Check.accessesOf(x, machine), "0 0 0; 0 1 1");
            Check.refused("access 2", NoSuchElementException.class, () -> x.access(m, 2, 0));
        }
    }

    private static void runsAreApart() {
        TwoMachines x = Check.desk(5, 1, 1, 1, 8, 1, 0, 0, 5, 4, 4, 1);
        x.translate();
        x.run(0, 50);
        Check.due("the target has not run", Check.stateOf(x, 1), Check.stateOf(new TwoMachines(), 1));
        String source = Check.stateOf(x, 0);
        x.register(1, 5);
        x.run(1, 50);
        Check.due("the source's run stays", Check.stateOf(x, 0), source);
        Check.due("the target's register 1", x.result(1, 1), 6);
        Check.due("the target's cell 0", x.cell(1, 0), 6);
        Check.due("the source's cell 0", x.cell(0, 0), 1);
        Check.due("run answers the same again", x.run(1, 50), 9);
        x.clear();
        x.add(8, 2, 0, 32);
        x.translate();
        x.run(1, 50);
        Check.due("a run of other code begins anew", Check.registersOf(x, 1), "0 5 0 0 0 0 0 0");
        Check.due("and its data, too", Check.dataOf(x, 1), "0 ".repeat(32));
    }

    private static void runRefuses() {
        TwoMachines x = Check.desk(5, 1, 1, 1);
        x.translate();
        x.run(0, 5);
        x.run(1, 5);
        String before = Check.stateOf(x, 0) + Check.stateOf(x, 1);
        for (int machine : new int[] {-1, 2, Integer.MIN_VALUE, Integer.MAX_VALUE}) {
            Check.refused("run(" + machine + ", 5)", IllegalArgumentException.class, () -> x.run(machine, 5));
        }
        for (int limit : new int[] {-1, 2001, Integer.MIN_VALUE, Integer.MAX_VALUE}) {
            Check.refused("run(0, " + limit + ")", IllegalArgumentException.class, () -> x.run(0, limit));
            Check.refused("run(1, " + limit + ")", IllegalArgumentException.class, () -> x.run(1, limit));
        }
        x.add(5, 1, 1, 1);
        Check.refused("run(1, 5) without code", IllegalStateException.class, () -> x.run(1, 5));
        Check.refused("run(1, 0) without code", IllegalStateException.class, () -> x.run(1, 0));
        Check.refused("run(1, 2001) without code", IllegalArgumentException.class, () -> x.run(1, 2001));
        Check.due("refused runs change nothing", Check.stateOf(x, 0) + Check.stateOf(x, 1), before);
    }

    private static void resultAnswersNone() {
        TwoMachines x = Check.desk(5, 1, 1, 1);
        x.run(0, 5);
        for (int machine : new int[] {-1, 2, Integer.MIN_VALUE, Integer.MAX_VALUE}) {
            for (int what = -1; what <= 12; what++) {
                Check.due("result(" + machine + ", " + what + ")", x.result(machine, what), TwoMachines.NONE);
            }
        }
        for (int what : new int[] {-1, 12, Integer.MIN_VALUE, Integer.MAX_VALUE}) {
            Check.due("result(0, " + what + ")", x.result(0, what), TwoMachines.NONE);
            Check.due("result(1, " + what + ")", x.result(1, what), TwoMachines.NONE);
        }
    }

    private static void cellRefuses() {
        TwoMachines x = Check.desk(8, 1, 0, 31);
        x.register(1, 4);
        x.translate();
        x.run(0, 5);
        x.run(1, 5);
        for (int machine = 0; machine < 2; machine++) {
            int m = machine;
            Check.due("cell(" + m + ", 31)", x.cell(m, 31), 4);
            for (int a : new int[] {-1, 32, 39, 63, 64, Integer.MIN_VALUE, Integer.MAX_VALUE}) {
                Check.refused("cell(" + m + ", " + a + ")", IllegalArgumentException.class, () -> x.cell(m, a));
            }
        }
        for (int machine : new int[] {-1, 2, Integer.MIN_VALUE, Integer.MAX_VALUE}) {
            Check.refused("cell(" + machine + ", 0)", IllegalArgumentException.class, () -> x.cell(machine, 0));
        }
    }

    private static void accessRefuses() {
        TwoMachines x = Check.desk(8, 1, 0, 31);
        x.translate();
        x.run(0, 5);
        x.run(1, 5);
        for (int machine = 0; machine < 2; machine++) {
            int m = machine;
            for (int what : new int[] {-1, 3, Integer.MIN_VALUE, Integer.MAX_VALUE}) {
                String call = "access(" + m + ", .., " + what + ")";
                Check.refused(call, IllegalArgumentException.class, () -> x.access(m, 0, what));
                Check.refused(call, IllegalArgumentException.class, () -> x.access(m, 9, what));
            }
            for (int k : new int[] {-1, 1, 39, 40, Integer.MIN_VALUE, Integer.MAX_VALUE}) {
                String call = "access(" + m + ", " + k + ", 0)";
                Check.refused(call, NoSuchElementException.class, () -> x.access(m, k, 0));
            }
        }
        for (int machine : new int[] {-1, 2, Integer.MIN_VALUE, Integer.MAX_VALUE}) {
            String call = "access(" + machine + ", 0, 0)";
            Check.refused(call, IllegalArgumentException.class, () -> x.access(machine, 0, 0));
            Check.refused(call, IllegalArgumentException.class, () -> x.access(machine, 99, 0));
        }
    }
}
