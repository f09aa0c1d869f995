/** Terms: "THE SOURCE": its registers, its instructions, HERE and NEXT, and how a run of it ends. */
public final class SourceTest {
    public static void main(String[] args) {
        registersAndFields();
        operations();
        branches();
        hereAndNext();
        ends();
        Check.finish();
    }

    private static void registersAndFields() {
        for (String writing : new String[] {
            "ADD 0 1 1", "SUB 0 1 2", "AND 0 1 1", "LESS 0 2 1", "ADDN 0 0 9", "HIGH 0 0 1", "LOAD 0 0 3"}) {
            Check.test("register 0 is always 0, behind " + writing + " too", () -> register0Stays(writing));
        }
        Check.test("registers 1 to 7 are each one of their own", SourceTest::registersAreTheirOwn);
        for (String operation : new String[] {"ADD", "SUB", "AND", "LESS"}) {
            Check.test(operation + " takes register C modulo 8", () -> registerCModulo8(operation));
        }
    }

    private static void operations() {
        Check.test("HALT: its fields say nothing", SourceTest::haltsFields);
        Check.test("LESS: 1 below, 0 at and above", SourceTest::lessAtItsEdge);
        Check.test("HIGH: B says nothing", SourceTest::highIsWithoutB);
        Check.test("an operation may write the register that it reads", SourceTest::readAndWritten);
    }

    private static void branches() {
        Check.test("SAME leads if they are equal, and not one beside", () -> fork("SAME", true));
        Check.test("OTHER leads if they are not, one beside too", () -> fork("OTHER", false));
        Check.test("SAME leads to HERE + 1 + C: to its slot", () -> leadsTo("SAME 0 0 0", 1));
        Check.test("SAME leads to HERE + 1 + C: to itself", () -> leadsTo("SAME 0 0 -1", 0));
        Check.test("SAME leads to HERE + 1 + C: C is the greatest", () -> leadsTo("SAME 0 0 127", 128));
        Check.test("SAME leads to HERE + 1 + C: C is the least", () -> leadsTo("SAME 0 0 -128", -127));
        Check.test("OTHER leads to HERE + 1 + C: to its slot", () -> leadsTo("OTHER 0 1 0", 1));
        Check.test("OTHER leads to HERE + 1 + C: C is the greatest", () -> leadsTo("OTHER 0 1 127", 128));
        Check.test("OTHER leads to HERE + 1 + C: C is the least", () -> leadsTo("OTHER 0 1 -128", -127));
        Check.test("JUMP leads to C: itself", () -> leadsTo("JUMP 7 7 0", 0));
        Check.test("JUMP leads to C: the greatest", () -> leadsTo("JUMP 7 7 127", 127));
        Check.test("JUMP leads to C: the least", () -> leadsTo("JUMP 7 7 -128", -128));
        Check.test("LINK leads to C: the greatest", () -> leadsTo("LINK 0 0 127", 127));
        Check.test("LINK leads to C: the least", () -> leadsTo("LINK 0 0 -128", -128));
        Check.test("TO leads to the place that register 0 says", () -> leadsTo("TO 0 7 127", 0));
        Check.test("TO leads to the place that a register says", () -> leadsTo("TO 1 0 0", 5));
        Check.test("the last place can be led to", SourceTest::lastPlace);
        Check.test("LINK: register 7 becomes HERE + 2, at the first place", () -> linkAt(0));
        Check.test("LINK: register 7 becomes HERE + 2, at the last place with a slot", () -> linkAt(22));
        Check.test("LINK: register 7 becomes HERE + 2, at the last place of all", SourceTest::linkAtTheLast);
        Check.test("LINK writes before its slot reads", SourceTest::linkBeforeItsSlot);
        Check.test("a branch reads before its slot writes", SourceTest::branchBeforeItsSlot);
        Check.test("LINK and TO lead there and back", SourceTest::thereAndBack);
    }

    private static void hereAndNext() {
        Check.test("HERE is 0 at first", SourceTest::hereAtFirst);
        Check.test("NEXT is 1 at first", SourceTest::nextAtFirst);
        Check.test("a branch in a slot: one instruction of the first aim is done", SourceTest::branchInASlot);
        Check.test("a branch in a slot that does not lead: NEXT + 1", SourceTest::idleBranchInASlot);
        Check.test("LINK and SAME in a slot go by their own HERE", SourceTest::ownHere);
    }

    private static void ends() {
        Check.test("HALT ends the run, and is done", SourceTest::haltIsDone);
        Check.test("HALT in a slot ends the run", () -> end("JUMP 0 0 3; HALT", 1, 1, 2));
        Check.test("operation 13 is one", () -> end("TO 0 0 0; HALT", 1, 1, 2));
        Check.test("operation 14 is none", () -> end("ADDN 1 0 1; 14; HALT", 2, 1, 1));
        Check.test("operation 15 is none", () -> end("15; HALT", 2, 0, 0));
        Check.test("an operation that is none faults in a slot, too", () -> end("JUMP 0 0 2; 14; HALT", 2, 1, 1));
        Check.test("an operation that is none is no fault where one does not come to it",
            () -> end("HALT; 15", 1, 0, 1));
        Check.test("LOAD of no cell is a fault", () -> end("ADDN 1 0 1; LOAD 1 0 32; HALT", 2, 1, 1));
        Check.test("STORE to no cell is a fault", () -> end("ADDN 1 0 1; STORE 1 0 -1; HALT", 2, 1, 1));
        Check.test("no cell in a slot is a fault", () -> end("JUMP 0 0 2; STORE 1 0 32; HALT", 2, 1, 1));
        Check.test("without a program there is no instruction at HERE", SourceTest::emptyProgram);
        Check.test("behind the last one there is no instruction", () -> end("ADDN 1 0 1", 2, 1, 1));
        Check.test("behind the 24th there is no instruction", () -> end(Check.times(24, "ADDN 1 1 1"), 2, 24, 24));
        Check.test("at -1 there is no instruction", () -> end("JUMP 0 0 -1; ADDN 1 0 1", 2, -1, 2));
        Check.test("where a branch has no slot there is no instruction", () -> end("JUMP 0 0 0", 2, 1, 1));
        Check.test("TO the least and the greatest number: no instruction there", SourceTest::toTheEdges);
        Check.test("what faults is not done", SourceTest::faultIsNotDone);
    }

    private static void register0Stays(String writing) {
        TwoMachines x = Check.desk(writing + "; ADDN 3 0 5; ADDN 4 0 6");
        x.register(1, 7);
        x.register(2, 3);
        x.data(3, 8);
        Check.dueRegisters(x, "0 7 3 5 6 0 0 0");
    }

    private static void registersAreTheirOwn() {
        TwoMachines x = new TwoMachines();
        for (int r = 1; r <= 7; r++) {
            x.add(5, r, r, r);
            x.register(r, 10 * r);
        }
        Check.dueRegisters(x, "0 11 22 33 44 55 66 77");
    }

    private static void registerCModulo8(String operation) {
        int[][] cases = {{-128, 0}, {-127, 1}, {-121, 7}, {-9, 7}, {-8, 0}, {-7, 1}, {-1, 7}, {0, 0}, {7, 7}, {8, 0},
            {9, 1}, {15, 7}, {16, 0}, {127, 7}};
        for (int register7 : new int[] {5, 75}) {
            int[] registers = {0, 29, 0, 0, 0, 0, 0, register7};
            for (int[] c : cases) {
                TwoMachines x = Check.desk(operation + " 3 2 " + c[0] + "; " + operation + " 6 2 " + c[0]);
                x.register(1, 29);
                x.register(2, 27);
                x.register(7, register7);
                int want = calculated(operation, 27, registers[c[1]]);
                Check.dueRegisters(x, "0 29 27 " + want + " 0 0 " + want + " " + register7);
            }
        }
    }

    private static int calculated(String operation, int left, int right) {
        switch (operation) {
            case "ADD":
                return left + right;
            case "SUB":
                return left - right;
            case "AND":
                return left & right;
            default:
                return left < right ? 1 : 0;
        }
    }

    private static void haltsFields() {
        TwoMachines x = Check.desk("HALT 1 2 127; ADDN 1 0 1");
        x.register(1, 10);
        x.register(2, 20);
        x.register(7, 70);
        Check.dueRegisters(x, "0 10 20 0 0 0 0 70");
        Check.due("done", x.result(0, 10), 1);
    }

    private static void lessAtItsEdge() {
        TwoMachines x = Check.desk("LESS 4 1 2; LESS 5 2 2; LESS 6 3 2; LESS 7 2 2");
        x.register(1, 9);
        x.register(2, 10);
        x.register(3, 11);
        x.register(7, 5);
        Check.dueRegisters(x, "0 9 10 11 1 0 0 0");
    }

    private static void highIsWithoutB() {
        TwoMachines x = Check.desk("HIGH 1 2 3; HIGH 5 2 -1");
        x.register(2, 4);
        Check.dueRegisters(x, "0 768 4 0 0 -256 0 0");
    }

    private static void readAndWritten() {
        TwoMachines x = Check.desk("ADD 1 1 1; SUB 4 4 4; ADD 5 5 5; LOAD 6 6 0; LOAD 2 2 0");
        for (int r = 1; r <= 7; r++) {
            x.register(r, r);
        }
        x.data(6, 60);
        x.data(2, 20);
        Check.dueRegisters(x, "0 2 20 3 0 10 60 7");
    }

    private static void fork(String operation, boolean ifEqual) {
        for (int beside = -1; beside <= 1; beside++) {
            TwoMachines x = Check.desk(operation + " 3 7 2; ADDN 1 1 1; ADDN 2 0 1; HALT");
            x.register(3, 40);
            x.register(7, 40 + beside);
            int behind = (beside == 0) == ifEqual ? 0 : 1;
            Check.dueRegisters(x, "0 1 " + behind + " 40 0 0 0 " + (40 + beside));
        }
    }

    /** The branch stands at place 0, and its slot does nothing; register 1 is 5. */
    private static void leadsTo(String branch, int place) {
        TwoMachines x = Check.desk(branch + "; ADDN 0 0 0");
        x.register(1, 5);
        x.run(0, 2);
        Check.due("HERE behind the slot", x.result(0, 9), place);
        Check.due("how many were done", x.result(0, 10), 2);
    }

    private static void lastPlace() {
        String program = "JUMP 0 0 23; ADDN 1 0 1; " + Check.times(21, "ADDN 2 0 1") + "; HALT";
        TwoMachines x = Check.desk(program);
        Check.dueRegisters(x, "0 1 0 0 0 0 0 0");
        Check.due("the source's end", Check.endOf(x, 0), "[1, 23, 3, 0]");
        Check.due("the target's place", x.result(1, 9), x.begins(23));
    }

    private static void linkAt(int place) {
        String before = place == 0 ? "" : Check.times(place, "ADDN 1 1 1") + "; ";
        TwoMachines x = Check.desk(before + "LINK 0 0 " + place + "; ADDN 0 0 0");
        Check.onBoth(x, m -> Check.due("register 7 of machine " + m, x.result(m, 7), place + 2));
    }

    private static void linkAtTheLast() {
        TwoMachines x = Check.desk(Check.times(23, "ADDN 1 1 1") + "; LINK 0 0 0");
        x.run(0, 100);
        Check.due("register 7", x.result(0, 7), 25);
        Check.due("the end", Check.endOf(x, 0), "[2, 24, 24, 0]");
    }

    private static void linkBeforeItsSlot() {
        Check.dueRegisters(Check.desk("LINK 0 0 2; ADDN 1 7 10; HALT"), "0 12 0 0 0 0 0 2");
    }

    private static void branchBeforeItsSlot() {
        TwoMachines x = Check.desk("TO 4 0 0; ADDN 4 0 9; ADDN 1 0 1; HALT");
        x.register(4, 3);
        Check.dueRegisters(x, "0 0 0 0 9 0 0 0");
        TwoMachines y = Check.desk("SAME 1 4 2; ADDN 1 1 1; ADDN 2 0 1; HALT");
        Check.dueRegisters(y, "0 1 0 0 0 0 0 0");
        TwoMachines z = Check.desk("OTHER 1 4 2; ADDN 4 4 1; ADDN 2 0 1; HALT");
        Check.dueRegisters(z, "0 0 1 0 1 0 0 0");
    }

    private static void thereAndBack() {
        TwoMachines x = Check.desk("JUMP 0 0 3; ADDN 1 1 1; ADDN 2 0 1; LINK 0 0 7; ADDN 1 7 10; ADDN 3 0 1; HALT; "
            + "TO 7 0 0; ADDN 7 0 77");
        int[] done = {8, 17};
        Check.onBoth(x, m -> {
            Check.due("registers of machine " + m, Check.registersOf(x, m), "0 15 0 1 0 0 0 77");
            Check.due("done by machine " + m, x.result(m, 10), done[m]);
            Check.due("place of machine " + m, x.result(m, 9), m == 0 ? 6 : x.begins(6));
        });
    }

    private static void hereAtFirst() {
        TwoMachines x = Check.desk("ADDN 1 1 1; HALT");
        x.run(0, 0);
        Check.due("HERE", x.result(0, 9), 0);
        x.run(0, 2);
        x.run(0, 1);
        Check.due("what is done first, in a later run too", Check.registersOf(x, 0), "0 1 0 0 0 0 0 0");
    }

    private static void nextAtFirst() {
        TwoMachines x = Check.desk("JUMP 0 0 5; ADDN 1 1 1");
        x.run(0, 1);
        Check.due("HERE behind the first", x.result(0, 9), 1);
        x.run(0, 2);
        Check.due("HERE behind the second", x.result(0, 9), 5);
        x.run(0, 1);
        Check.due("HERE behind the first of a later run", x.result(0, 9), 1);
    }

    private static void branchInASlot() {
        TwoMachines x = Check.desk("JUMP 0 0 4; JUMP 0 0 6; ADDN 1 0 1; HALT; ADDN 2 2 1; ADDN 3 0 1; HALT");
        Check.due("done", x.run(0, 50), 4);
        Check.due("registers", Check.registersOf(x, 0), "0 0 1 0 0 0 0 0");
        Check.due("HERE", x.result(0, 9), 6);
    }

    private static void idleBranchInASlot() {
        TwoMachines x = Check.desk("SAME 0 0 3; OTHER 0 0 5; HALT; HALT; ADDN 1 0 7; HALT");
        Check.due("done", x.run(0, 9), 4);
        Check.due("HERE", x.result(0, 9), 5);
        Check.due("register 1", x.result(0, 1), 7);
    }

    private static void ownHere() {
        TwoMachines x = Check.desk("JUMP 0 0 4; LINK 0 0 2; HALT; HALT; ADDN 1 7 0");
        x.run(0, 50);
        Check.due("registers", Check.registersOf(x, 0), "0 3 0 0 0 0 0 3");
        Check.due("HERE", x.result(0, 9), 2);
        TwoMachines y = Check.desk("JUMP 0 0 4; SAME 0 0 1; HALT; HALT; ADDN 1 0 1; HALT");
        y.run(0, 50);
        Check.due("HERE behind SAME in a slot", Check.endOf(y, 0), "[1, 3, 4, 0]");
    }

    private static void haltIsDone() {
        end("HALT", 1, 0, 1);
        end("ADDN 1 0 1; HALT; ADDN 1 0 2", 1, 1, 2);
        end(Check.times(23, "ADDN 1 1 1") + "; HALT", 1, 23, 24);
    }

    private static void end(String program, int end, int here, int done) {
        TwoMachines x = Check.desk(program);
        Check.due("run(0, 50)", x.run(0, 50), done);
        Check.due("the end, HERE, done, kept", Check.endOf(x, 0), "[" + end + ", " + here + ", " + done + ", 0]");
    }

    private static void emptyProgram() {
        TwoMachines x = new TwoMachines();
        Check.due("run(0, 50)", x.run(0, 50), 0);
        Check.due("the end, HERE, done, kept", Check.endOf(x, 0), "[2, 0, 0, 0]");
    }

    private static void toTheEdges() {
        for (int place : new int[] {32767, -32768, -1, 2}) {
            TwoMachines x = Check.desk("TO 4 0 0; ADDN 1 0 1");
            x.register(4, place);
            x.run(0, 50);
            Check.due("the end, HERE, done, kept", Check.endOf(x, 0), "[2, " + place + ", 2, 0]");
        }
    }

    private static void faultIsNotDone() {
        TwoMachines x = Check.desk("ADDN 2 0 6; LOAD 1 3 0; ADDN 2 0 7");
        x.register(1, 99);
        x.register(3, 32);
        x.run(0, 50);
        Check.due("registers behind LOAD", Check.registersOf(x, 0), "0 99 6 32 0 0 0 0");
        Check.due("the end, HERE, done, kept", Check.endOf(x, 0), "[2, 1, 1, 0]");
        TwoMachines y = Check.desk("STORE 1 0 32; STORE 1 0 0");
        y.register(1, 99);
        y.run(0, 50);
        Check.due("data behind STORE", Check.dataOf(y, 0), Check.dataWith());
        Check.due("the end, HERE, done, kept", Check.endOf(y, 0), "[2, 0, 0, 0]");
        TwoMachines z = Check.desk("14 1 1 1; ADDN 1 0 1");
        z.register(1, 99);
        z.run(0, 50);
        Check.due("registers behind operation 14", Check.registersOf(z, 0), "0 99 0 0 0 0 0 0");
    }
}
