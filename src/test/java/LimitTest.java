/** Terms: "RUNS begin with the START values .., and end as said, or when so many instructions were done as may be." */
public final class LimitTest {
    public static void main(String[] args) {
        Check.test("RUNS begin with the START values, again and again", LimitTest::beginsAnew);
        Check.test("RUNS begin at place 0", LimitTest::beginsAtPlace0);
        Check.test("RUNS: the target's kept registers are 0 again", LimitTest::keptRegistersAnew);
        Check.test("RUNS: the map is there from the beginning", LimitTest::mapAtFirst);
        Check.test("RUNS end when none may be done", () -> limit(0, 0, 0, 0, 0));
        Check.test("RUNS end when one may be done", () -> limit(1, 1, 0, 1, 1));
        Check.test("RUNS end one before HALT", () -> limit(2, 2, 0, 2, 2));
        Check.test("RUNS that come to HALT with the last that may be done", () -> limit(3, 3, 1, 2, 2));
        Check.test("RUNS end at HALT, if more may be done", () -> limit(4, 3, 1, 2, 2));
        Check.test("RUNS end at HALT, if the most may be done", () -> limit(2000, 3, 1, 2, 2));
        Check.test("RUNS end when 1999 were done", () -> endless(1999));
        Check.test("RUNS end when 2000 were done", () -> endless(2000));
        Check.test("RUNS end between a branch and its slot", LimitTest::endsBeforeASlot);
        Check.test("RUNS of the source end before a fault that would be next", LimitTest::endsBeforeAFault);
        Check.test("RUNS of the source end with a fault, if one more may be done", LimitTest::endsWithAFault);
        Check.test("RUNS of the target end before END", LimitTest::endsBeforeEnd);
        Check.test("RUNS of nothing end at once, if none may be done", LimitTest::nothingAtAll);
        Check.test("of 512 calls the last one is answered as the first", LimitTest::lastOf512Calls);
        Check.finish();
    }

    private static void beginsAnew() {
        TwoMachines x = Check.translated("ADDN 1 1 3; ADDN 5 5 1; STORE 5 0 4");
        x.register(1, 1);
        x.register(5, 10);
        x.data(4, -1);
        for (int time = 0; time < 3; time++) {
            for (int machine = 0; machine < 2; machine++) {
                x.run(machine, 100);
                Check.due("registers behind a run", Check.registersOf(x, machine), "0 4 0 0 0 11 0 0");
                Check.due("cell 4 behind a run", x.cell(machine, 4), 11);
                x.run(machine, 0);
                Check.due("registers at first", Check.registersOf(x, machine), "0 1 0 0 0 10 0 0");
                Check.due("cell 4 at first", x.cell(machine, 4), -1);
            }
        }
    }

    private static void beginsAtPlace0() {
        TwoMachines x = Check.translated("ADDN 1 1 1; ADDN 2 2 1; HALT");
        for (int machine = 0; machine < 2; machine++) {
            x.run(machine, 2);
            x.run(machine, 1);
            Check.due("registers of machine " + machine, Check.registersOf(x, machine), "0 1 0 0 0 0 0 0");
            Check.due("place of machine " + machine, x.result(machine, 9), 1);
        }
    }

    private static void keptRegistersAnew() {
        TwoMachines x = Check.translated("HIGH 4 0 1; HIGH 5 0 2; HIGH 6 0 3; HIGH 7 0 4; HALT");
        x.run(1, 100);
        Check.due("registers behind a run", Check.registersOf(x, 1), "0 0 0 0 256 512 768 1024");
        x.run(1, 0);
        Check.due("registers at first", Check.registersOf(x, 1), "0 0 0 0 0 0 0 0");
    }

    private static void mapAtFirst() {
        TwoMachines x = Check.translated("TO 1 0 0; ADDN 0 0 0; HALT; ADD 4 4 4; HALT");
        x.register(1, 4);
        x.run(1, 50);
        Check.due("the place", x.result(1, 9), x.begins(4));
        Check.due("the end", x.result(1, 8), 1);
    }

    /** The code of this program has the same places. */
    private static void limit(int limit, int done, int end, int place, int register1) {
        TwoMachines x = Check.translated("ADDN 1 1 1; ADDN 1 1 1; HALT");
        for (int machine = 0; machine < 2; machine++) {
            Check.due("run(" + machine + ", " + limit + ")", x.run(machine, limit), done);
            Check.due("the end, the place, done, kept", Check.endOf(x, machine),
                "[" + end + ", " + place + ", " + done + ", 0]");
            Check.due("register 1 of machine " + machine, x.result(machine, 1), register1);
        }
    }

    /** A round has 2 instructions in either machine; in the target the slot stands before the JUMP. */
    private static void endless(int limit) {
        TwoMachines x = Check.translated("JUMP; ADDN 1 1 1");
        for (int machine = 0; machine < 2; machine++) {
            Check.due("run(" + machine + ", " + limit + ")", x.run(machine, limit), limit);
            Check.due("the end, the place, done, kept", Check.endOf(x, machine),
                "[0, " + limit % 2 + ", " + limit + ", 0]");
            int slotsDone = machine == 0 ? limit / 2 : (limit + 1) / 2;
            Check.due("register 1 of machine " + machine, x.result(machine, 1), slotsDone);
        }
    }

    private static void endsBeforeASlot() {
        TwoMachines x = Check.desk("JUMP 0 0 2; ADDN 1 1 1; HALT");
        x.run(0, 1);
        Check.due("the end, HERE, done, kept", Check.endOf(x, 0), "[0, 1, 1, 0]");
        Check.due("register 1", x.result(0, 1), 0);
    }

    private static void endsBeforeAFault() {
        for (String program : new String[] {"ADDN 1 0 1", "ADDN 1 0 1; 14", "ADDN 1 0 1; LOAD 1 0 32"}) {
            TwoMachines x = Check.desk(program);
            Check.due("run(0, 1) of " + program, x.run(0, 1), 1);
            Check.due("the end, HERE, done, kept", Check.endOf(x, 0), "[0, 1, 1, 0]");
        }
    }

    private static void endsWithAFault() {
        for (String program : new String[] {"ADDN 1 0 1", "ADDN 1 0 1; 14", "ADDN 1 0 1; LOAD 1 0 32"}) {
            TwoMachines x = Check.desk(program);
            Check.due("run(0, 2) of " + program, x.run(0, 2), 1);
            Check.due("the end, HERE, done, kept", Check.endOf(x, 0), "[2, 1, 1, 0]");
        }
    }

    private static void endsBeforeEnd() {
        TwoMachines x = Check.translated("ADDN 1 0 1");
        Check.due("run(1, 1)", x.run(1, 1), 1);
        Check.due("the end, the place, done, kept", Check.endOf(x, 1), "[0, 1, 1, 0]");
        Check.due("run(1, 2)", x.run(1, 2), 2);
        Check.due("the end, the place, done, kept", Check.endOf(x, 1), "[2, 1, 2, 0]");
    }

    private static void nothingAtAll() {
        TwoMachines x = new TwoMachines();
        x.translate();
        for (int machine = 0; machine < 2; machine++) {
            Check.due("run(" + machine + ", 0)", x.run(machine, 0), 0);
            Check.due("the end, the place, done, kept", Check.endOf(x, machine), "[0, 0, 0, 0]");
        }
    }

    private static void lastOf512Calls() {
        TwoMachines x = new TwoMachines();
        Check.addAll(x, Check.times(12, "TO 1 0 0; STORE 7 6 0"));
        for (int call = 24; call < 510; call += 2) {
            Check.due("call " + call + ": translate()", x.translate(), 0);
            Check.due("call " + (call + 1) + ": run(1, 2000)", x.run(1, 2000), 2000);
        }
        Check.due("call 510: size()", x.size(), 205);
        Check.due("call 511: result(1, 11)", x.result(1, 11), 40);
    }
}
