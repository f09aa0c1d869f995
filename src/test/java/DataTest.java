/**
 * Terms: "DATA are 32 cells, 0 .. 31. What reads or writes one is an ACCESS, and the first 40 of a run are kept: which
 * cell, whether it was written, and the number."
 */
public final class DataTest {
    public static void main(String[] args) {
        Check.test("cell 0 is the first", () -> cellCanBeReached(0));
        Check.test("cell 31 is the last", () -> cellCanBeReached(31));
        Check.test("each cell is one of its own", DataTest::eachCellIsItsOwn);
        Check.test("there is no cell -1", () -> noSuchCell(-1));
        Check.test("there is no cell 32, though the target has one", () -> noSuchCell(32));
        Check.test("there is no cell 63, though the target has one", () -> noSuchCell(63));
        Check.test("there is no cell 64", () -> noSuchCell(64));
        Check.test("B + C comes to cell 0 from below", () -> sumOf(-127, 127, 0));
        Check.test("B + C comes to cell 31 from above", () -> sumOf(159, -128, 31));
        Check.test("what reads is an access", DataTest::readingIsAnAccess);
        Check.test("what writes is an access", DataTest::writingIsAnAccess);
        Check.test("reading into register 0 is an access", DataTest::readingIntoRegister0);
        Check.test("writing register 0 is an access", DataTest::writingRegister0);
        Check.test("an access in a slot is one", DataTest::accessInASlot);
        Check.test("the number of an access may be the least or the greatest", DataTest::numbersOfAccesses);
        Check.test("what is no cell is no access", DataTest::faultIsNoAccess);
        Check.test("without an access none is kept", DataTest::noAccess);
        Check.test("39 accesses are kept", () -> accesses(39, 39));
        Check.test("40 accesses are kept", () -> accesses(40, 40));
        Check.test("of 41 accesses 40 are kept", () -> accesses(41, 40));
        Check.test("of many accesses 40 are kept", () -> accesses(300, 40));
        Check.test("an access that is not kept is done all the same", DataTest::laterAccessesAreDone);
        Check.test("the first 40 are kept of each run anew", DataTest::keptAnew);
        Check.finish();
    }

    private static void cellCanBeReached(int a) {
        TwoMachines x = Check.desk("LOAD 1 0 " + a + "; STORE 2 0 " + a + "; LOAD 7 4 0; HALT");
        x.data(a, 5);
        x.register(2, 6);
        x.register(4, a);
        Check.onBoth(x, m -> {
            Check.due("registers of machine " + m, Check.registersOf(x, m), "0 5 6 0 " + a + " 0 0 6");
            Check.due("data of machine " + m, Check.dataOf(x, m), Check.dataWith(a, 6));
            Check.due("the end of machine " + m, x.result(m, 8), 1);
        });
    }

    private static void eachCellIsItsOwn() {
        TwoMachines x = Check.desk("ADD 2 1 3; STORE 2 1 0; ADDN 1 1 1; LESS 4 1 5; OTHER 4 0 -5; ADDN 0 0 0; HALT");
        x.register(3, 100);
        x.register(5, 32);
        int[] want = new int[64];
        for (int a = 0; a < 32; a++) {
            want[2 * a] = a;
            want[2 * a + 1] = a + 100;
        }
        Check.onBoth(x, m -> Check.due("data of machine " + m, Check.dataOf(x, m), Check.dataWith(want)));
    }

    private static void noSuchCell(int a) {
        for (String operation : new String[] {"LOAD", "STORE"}) {
            TwoMachines x = Check.desk("ADDN 2 0 8; " + operation + " 1 3 0; HALT");
            x.register(1, 99);
            x.register(3, a);
            Check.onBoth(x, m -> {
                Check.due("the end of machine " + m, x.result(m, 8), 2);
                Check.due("registers of machine " + m, Check.registersOf(x, m), "0 99 8 " + a + " 0 0 0 0");
                Check.due("data of machine " + m, Check.dataOf(x, m), Check.dataWith());
            });
        }
        TwoMachines x = new TwoMachines();
        Check.refused("data(" + a + ", 0)", IllegalArgumentException.class, () -> x.data(a, 0));
        Check.refused("cell(0, " + a + ")", IllegalArgumentException.class, () -> x.cell(0, a));
        Check.refused("cell(1, " + a + ")", IllegalArgumentException.class, () -> x.cell(1, a));
    }

    private static void sumOf(int b, int c, int a) {
        TwoMachines x = Check.desk("STORE 1 2 " + c + "; LOAD 6 7 " + c);
        x.register(1, 12);
        x.register(2, b);
        x.register(7, b);
        Check.dueAccesses(x, a + " written 12; " + a + " read 12");
    }

    private static void readingIsAnAccess() {
        TwoMachines x = Check.desk("LOAD 1 0 9; LOAD 6 0 10");
        x.data(9, 90);
        x.data(10, -3);
        Check.dueAccesses(x, "9 read 90; 10 read -3");
    }

    private static void writingIsAnAccess() {
        TwoMachines x = Check.desk("STORE 1 0 9; STORE 6 0 10");
        x.data(9, 90);
        x.register(1, 7);
        x.register(6, 8);
        Check.dueAccesses(x, "9 written 7; 10 written 8");
    }

    private static void readingIntoRegister0() {
        TwoMachines x = Check.desk("LOAD 0 0 4");
        x.data(4, 44);
        Check.dueAccesses(x, "4 read 44");
    }

    private static void writingRegister0() {
        TwoMachines x = Check.desk("STORE 0 0 4");
        x.data(4, 44);
        Check.dueAccesses(x, "4 written 0");
    }

    private static void accessInASlot() {
        TwoMachines x = Check.desk("JUMP 0 0 2; STORE 1 0 4; HALT");
        x.register(1, 3);
        Check.dueAccesses(x, "4 written 3");
    }

    private static void numbersOfAccesses() {
        TwoMachines x = Check.desk("LOAD 1 0 0; LOAD 4 0 31; STORE 1 0 31; STORE 4 0 0");
        x.data(0, -32768);
        x.data(31, 32767);
        Check.dueAccesses(x, "0 read -32768; 31 read 32767; 31 written -32768; 0 written 32767");
    }

    private static void faultIsNoAccess() {
        Check.dueAccesses(Check.desk("STORE 1 0 3; LOAD 1 0 32; STORE 1 0 4"), "3 written 0");
        Check.dueAccesses(Check.desk("STORE 1 0 3; STORE 1 0 -1; STORE 1 0 4"), "3 written 0");
    }

    private static void noAccess() {
        TwoMachines x = Check.desk("ADDN 1 0 1; ADDN 4 5 1; HALT");
        x.data(0, 1);
        Check.dueAccesses(x, "");
    }

    /** Access k, counted from 0, writes k + 1: a round has 3 instructions in the source, and 6 in the target. */
    private static TwoMachines counting() {
        return Check.translated("ADDN 1 1 1; JUMP; STORE 1 0 3");
    }

    private static int limitOf(int machine, int rounds) {
        return rounds * (machine == 0 ? 3 : 6);
    }

    private static void accesses(int made, int kept) {
        for (int machine = 0; machine < 2; machine++) {
            TwoMachines x = counting();
            int m = machine;
            x.run(m, limitOf(m, made));
            Check.due("result(" + m + ", 11)", x.result(m, 11), kept);
            for (int k = 0; k < kept; k++) {
                Check.due("the number of access " + k + " of machine " + m, x.access(m, k, 2), k + 1);
                Check.due("the cell of access " + k + " of machine " + m, x.access(m, k, 0), 3);
            }
            Check.refused("access(" + m + ", " + kept + ", 2)", java.util.NoSuchElementException.class,
                () -> x.access(m, kept, 2));
        }
    }

    private static void laterAccessesAreDone() {
        for (int machine = 0; machine < 2; machine++) {
            TwoMachines x = counting();
            x.run(machine, limitOf(machine, 41));
            Check.due("the cell behind 41 accesses of machine " + machine, x.cell(machine, 3), 41);
            x.run(machine, limitOf(machine, 333));
            Check.due("the cell behind 333 accesses of machine " + machine, x.cell(machine, 3), 333);
        }
    }

    private static void keptAnew() {
        for (int machine = 0; machine < 2; machine++) {
            TwoMachines x = counting();
            x.register(1, 50);
            x.run(machine, limitOf(machine, 50));
            x.register(1, 70);
            x.run(machine, limitOf(machine, 2));
            Check.due("the accesses of machine " + machine, Check.accessesOf(x, machine), "3 written 71; 3 written 72");
        }
    }
}
