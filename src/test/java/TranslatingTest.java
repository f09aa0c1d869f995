/** Terms: "TRANSLATING": what is refused, and the code of what is not. */
public final class TranslatingTest {
    private static final String[] BRANCHES = {"SAME", "OTHER", "JUMP", "LINK", "TO"};

    public static void main(String[] args) {
        reasonOne();
        reasonTwo();
        reasonThree();
        whichReason();
        emptyAndFull();
        readingAndWriting();
        codeOfOperations();
        codeOfBranches();
        Check.finish();
    }

    private static void reasonOne() {
        Check.test("reason 1: 13 is an operation", () -> answer("TO 0 0 0; ADDN 0 0 0", 0));
        Check.test("reason 1: 14 is none", () -> answer("14", 1));
        Check.test("reason 1: 15 is none", () -> answer("15 7 7 127", 1));
        Check.test("reason 1: at the last place of 24", () -> answer(Check.times(23, "HALT") + "; 14", 1 + 16 * 23));
    }

    private static void reasonTwo() {
        for (String branch : BRANCHES) {
            Check.test("reason 2: the slot of " + branch + " is not there", () -> answer(branch, 2));
            Check.test("reason 2: the slot of " + branch + " at the 24th place is not there",
                () -> answer(Check.times(23, "HALT") + "; " + branch, 2 + 16 * 23));
            Check.test("reason 2: the slot of " + branch + " is HALT", () -> answer(branch + "; HALT", 2));
            for (String slot : BRANCHES) {
                Check.test("reason 2: the slot of " + branch + " is " + slot,
                    () -> answer(branch + "; " + slot + "; ADDN", 2));
            }
            for (String slot : new String[] {"ADD", "SUB", "AND", "LESS", "ADDN", "HIGH", "LOAD", "STORE"}) {
                Check.test("reason 2: the slot of " + branch + " may be " + slot,
                    () -> answer(branch + "; " + slot, 0));
            }
            Check.test("reason 2: at the last place but one of 24 there is a slot of " + branch,
                () -> answer(Check.times(22, "HALT") + "; " + branch + "; ADDN", 0));
        }
    }

    private static void reasonThree() {
        for (String fork : new String[] {"SAME", "OTHER"}) {
            Check.test("reason 3: " + fork + " to place 0", () -> answer("HALT; " + fork + " 1 2 -2; ADDN", 0));
            Check.test("reason 3: " + fork + " to place -1", () -> answer("HALT; " + fork + " 1 2 -3; ADDN", 3 + 16));
            Check.test("reason 3: " + fork + " to the last place",
                () -> answer("HALT; " + fork + " 1 2 1; ADDN; HALT", 0));
            Check.test("reason 3: " + fork + " to behind the last place",
                () -> answer("HALT; " + fork + " 1 2 2; ADDN; HALT", 3 + 16));
            Check.test("reason 3: " + fork + " by the greatest C", () -> answer(fork + " 1 2 127; ADDN", 3));
            Check.test("reason 3: " + fork + " by the least C", () -> answer(fork + " 1 2 -128; ADDN", 3));
            Check.test("reason 3: " + fork + " may lead, whatever its registers are", () -> {
                answer(fork + " 0 0 1; ADDN", 3);
                answer(fork + " 1 1 1; ADDN", 3);
            });
        }
        for (String jump : new String[] {"JUMP", "LINK"}) {
            Check.test("reason 3: " + jump + " to place 0", () -> answer("HALT; " + jump + " 0 0 0; ADDN", 0));
            Check.test("reason 3: " + jump + " to place -1", () -> answer("HALT; " + jump + " 0 0 -1; ADDN", 3 + 16));
            Check.test("reason 3: " + jump + " to the last place", () -> answer("HALT; " + jump + " 0 0 2; ADDN", 0));
            Check.test("reason 3: " + jump + " to behind the last place",
                () -> answer("HALT; " + jump + " 0 0 3; ADDN", 3 + 16));
            Check.test("reason 3: " + jump + " by the greatest C", () -> answer(jump + " 0 0 127; ADDN", 3));
            Check.test("reason 3: " + jump + " by the least C", () -> answer(jump + " 0 0 -128; ADDN", 3));
            Check.test("reason 3: " + jump + " to the 24th place",
                () -> answer(jump + " 0 0 23; ADDN; " + Check.times(22, "HALT"), 0));
            Check.test("reason 3: " + jump + " to behind the 24th place",
                () -> answer(jump + " 0 0 24; ADDN; " + Check.times(22, "HALT"), 3));
        }
        Check.test("reason 3: not of TO, whatever its C", () -> {
            answer("TO 1 0 127; ADDN", 0);
            answer("TO 1 0 -128; ADDN", 0);
        });
        Check.test("reason 3: not of going on behind the last place", () -> {
            answer("ADDN", 0);
            answer("SAME 1 2 0; ADDN", 0);
        });
        Check.test("reason 3: not of what is no branch", () -> answer("ADDN 0 0 127; STORE 0 0 -128; HALT 0 0 127", 0));
    }

    private static void whichReason() {
        Check.test("by the first place: 3 before a later 1", () -> answer("JUMP 0 0 9; ADDN; 14", 3));
        Check.test("by the first place: 3 before a later 2", () -> answer("JUMP 0 0 9; ADDN; JUMP", 3));
        Check.test("by the first place: 2 before a later 1", () -> answer("JUMP; HALT; 14", 2));
        Check.test("by the first place: of two with the same reason", () -> answer("HALT; 15; 14", 1 + 16));
        Check.test("by the first place: 3 before a 1 in its slot", () -> answer("JUMP 0 0 9; 14", 3));
        Check.test("by the first place: a slot that is no operation is not reason 2", () -> answer("JUMP; 14", 1 + 16));
        Check.test("of several reasons the least: 2 before 3, without a slot", () -> {
            for (String branch : BRANCHES) {
                answer(branch + " 1 2 100", 2);
            }
        });
        Check.test("of several reasons the least: 2 before 3, with a wrong slot", () -> answer("JUMP 0 0 9; HALT", 2));
    }

    private static void emptyAndFull() {
        Check.test("an empty program: the END alone", TranslatingTest::emptyProgram);
        Check.test("a full program of the shortest", TranslatingTest::shortestOf24);
        Check.test("a full program of the longest", TranslatingTest::longestOf24);
        Check.test("END stands for the place behind the last one", () ->
            code("OTHER 0 0 -1; ADDN 3 3 1", "SUB 6 0 0; ADDN 3 3 1; OTHER 6 0 0; JUMP 0 0 5; ADDN 3 3 1; STOP 0 0 1"));
    }

    private static void readingAndWriting() {
        Check.test("TO READ: nothing, if r is 0", () -> code("ADDN 1 0 9", "ADDN 1 0 9; STOP 0 0 1"));
        Check.test("TO READ: nothing, if r is 3", () -> code("ADDN 1 3 9", "ADDN 1 3 9; STOP 0 0 1"));
        Check.test("TO READ: LOAD, if r is 4", () -> code("ADDN 1 4 9", "LOAD 4 0 36; ADDN 1 4 9; STOP 0 0 1"));
        Check.test("TO READ: LOAD, if r is 7", () -> code("ADDN 1 7 9", "LOAD 4 0 39; ADDN 1 4 9; STOP 0 0 1"));
        Check.test("TO WRITE: register 0", () -> code("ADDN 0 1 9", "ADDN 4 1 9; STOP 0 0 1"));
        Check.test("TO WRITE: register 1", () -> code("ADDN 1 1 9", "ADDN 1 1 9; STOP 0 0 1"));
        Check.test("TO WRITE: register 3", () -> code("ADDN 3 1 9", "ADDN 3 1 9; STOP 0 0 1"));
        Check.test("TO WRITE: register 4", () -> code("ADDN 4 1 9", "ADDN 4 1 9; STORE 4 0 36; STOP 0 0 1"));
        Check.test("TO WRITE: register 7", () -> code("ADDN 7 1 9", "ADDN 4 1 9; STORE 4 0 39; STOP 0 0 1"));
    }

    private static void codeOfOperations() {
        Check.test("the code of HALT", () -> code("HALT 7 6 5", "STOP 0 0 0; STOP 0 0 1"));
        for (String operation : new String[] {"ADD", "SUB", "AND", "LESS"}) {
            Check.test("the code of " + operation, () -> calculation(operation));
        }
        Check.test("the code of ADDN", () -> {
            code("ADDN 3 2 -128", "ADDN 3 2 -128; STOP 0 0 1");
            code("ADDN 3 2 127", "ADDN 3 2 127; STOP 0 0 1");
            code("ADDN 4 5 9", "LOAD 4 0 37; ADDN 4 4 9; STORE 4 0 36; STOP 0 0 1");
        });
        Check.test("the code of HIGH", () -> {
            code("HIGH 1 7 127", "HIGH 1 0 127; STOP 0 0 1");
            code("HIGH 7 3 -128", "HIGH 4 0 -128; STORE 4 0 39; STOP 0 0 1");
            code("HIGH 0 0 1", "HIGH 4 0 1; STOP 0 0 1");
        });
        Check.test("the code of LOAD", () -> {
            code("LOAD 3 2 -128", "ADDN 5 2 -128; ADDN 4 0 32; ABOVE 5 4 4; LOAD 3 5 0; STOP 0 0 1");
            code("LOAD 0 0 127", "ADDN 5 0 127; ADDN 4 0 32; ABOVE 5 4 4; LOAD 4 5 0; STOP 0 0 1");
            code("LOAD 4 7 1",
                "LOAD 4 0 39; ADDN 5 4 1; ADDN 4 0 32; ABOVE 5 4 6; LOAD 4 5 0; STORE 4 0 36; STOP 0 0 1");
        });
        Check.test("the code of STORE", () -> {
            code("STORE 3 2 -128", "ADDN 5 2 -128; ADDN 4 0 32; ABOVE 5 4 4; STORE 3 5 0; STOP 0 0 1");
            code("STORE 0 0 127", "ADDN 5 0 127; ADDN 4 0 32; ABOVE 5 4 4; STORE 0 5 0; STOP 0 0 1");
            code("STORE 4 7 1",
                "LOAD 4 0 39; ADDN 5 4 1; ADDN 4 0 32; ABOVE 5 4 6; LOAD 4 0 36; STORE 4 5 0; STOP 0 0 1");
        });
    }

    private static void codeOfBranches() {
        for (String fork : new String[] {"SAME", "OTHER"}) {
            Check.test("the code of " + fork, () -> fork(fork));
        }
        Check.test("the code of JUMP", () -> {
            code("JUMP 7 7 1; ADDN 1 1 1", "ADDN 1 1 1; JUMP 0 0 2; ADDN 1 1 1; STOP 0 0 1");
            code("ADDN 2 0 1; JUMP; ADDN 1 1 1", "ADDN 2 0 1; ADDN 1 1 1; JUMP 0 0 0; ADDN 1 1 1; STOP 0 0 1");
        });
        Check.test("the code of LINK", () -> {
            code("LINK 3 3 1; ADDN 1 1 1", "ADDN 4 0 2; STORE 4 0 39; ADDN 1 1 1; JUMP 0 0 4; ADDN 1 1 1; STOP 0 0 1");
            code("HALT; LINK; HIGH 6 0 3",
                "STOP 0 0 0; ADDN 4 0 3; STORE 4 0 39; HIGH 4 0 3; STORE 4 0 38; JUMP 0 0 0; "
                + "HIGH 4 0 3; STORE 4 0 38; STOP 0 0 1");
        });
        Check.test("the code of TO", () -> {
            code("TO 3 5 99; ADDN 1 1 1",
                "ADDN 6 3 0; ADDN 1 1 1; ADDN 4 0 2; ABOVE 6 4 7; LOAD 4 6 40; TO 4 0 0; ADDN 1 1 1; STOP 0 0 1");
            code("TO 4 0 0; ADDN 1 1 1; HALT", "LOAD 4 0 36; ADDN 6 4 0; ADDN 1 1 1; ADDN 4 0 3; ABOVE 6 4 9; "
                + "LOAD 4 6 40; TO 4 0 0; ADDN 1 1 1; STOP 0 0 0; STOP 0 0 1");
            code("TO; ADDN 1 1 1", "ADDN 6 0 0; ADDN 1 1 1; ADDN 4 0 2; ABOVE 6 4 7; LOAD 4 6 40; TO 4 0 0; "
                + "ADDN 1 1 1; STOP 0 0 1");
        });
        Check.test("the code of a slot is that of the instruction at the next place", () ->
            code("JUMP 0 0 1; STORE 6 5 2",
                "LOAD 4 0 37; ADDN 5 4 2; ADDN 4 0 32; ABOVE 5 4 13; LOAD 4 0 38; STORE 4 5 0; JUMP 0 0 7; "
                + "LOAD 4 0 37; ADDN 5 4 2; ADDN 4 0 32; ABOVE 5 4 13; LOAD 4 0 38; STORE 4 5 0; STOP 0 0 1"));
    }

    private static void answer(String program, int want) {
        TwoMachines x = Check.desk(program);
        Check.due("translate() of " + program, x.translate(), want);
        Check.due("whether there is code of " + program, x.size() > 0, want == 0);
    }

    private static void code(String program, String want) {
        Check.due("the code of " + program, Check.codeOf(Check.translated(program)), want);
    }

    private static void emptyProgram() {
        TwoMachines x = new TwoMachines();
        Check.due("translate()", x.translate(), 0);
        Check.due("the code", Check.codeOf(x), "STOP 0 0 1");
    }

    private static void shortestOf24() {
        code(Check.times(24, "HALT"), Check.times(24, "STOP 0 0 0") + "; STOP 0 0 1");
    }

    /** TO with STORE in its slot has 12 instructions, STORE itself 6. */
    private static void longestOf24() {
        TwoMachines x = Check.translated(Check.times(12, "TO 7 0 0; STORE 6 5 0"));
        Check.due("size()", x.size(), 217);
        Check.due("begins(23)", x.begins(23), 210);
        Check.due("begins(24)", x.begins(24), 216);
        Check.due("the count in its last TO", x.code(206, 3), 24);
        Check.due("the END in its last TO", x.code(207, 3), 216);
        x.register(7, 22);
        x.register(5, 32);
        Check.due("run(1, 2000) to its fault", x.run(1, 2000), 7);
        Check.due("which is END", x.result(1, 9), 216);
        x.register(5, 31);
        Check.due("run(1, 2000) on and on", x.run(1, 2000), 2000);
        x.register(7, 24);
        Check.due("run(1, 2000) that leads out", x.run(1, 2000), 11);
        Check.due("which is END, too", x.result(1, 9), 216);
    }

    private static void calculation(String operation) {
        code(operation + " 3 1 2", operation + " 3 1 2; STOP 0 0 1");
        code(operation + " 1 0 0", operation + " 1 0 0; STOP 0 0 1");
        code(operation + " 0 2 3", operation + " 4 2 3; STOP 0 0 1");
        code(operation + " 2 1 11", operation + " 2 1 3; STOP 0 0 1");
        code(operation + " 6 4 7", "LOAD 4 0 36; LOAD 5 0 39; " + operation + " 4 4 5; STORE 4 0 38; STOP 0 0 1");
        code(operation + " 3 3 -4", "LOAD 5 0 36; " + operation + " 3 3 5; STOP 0 0 1");
        code(operation + " 4 7 -128", "LOAD 4 0 39; " + operation + " 4 4 0; STORE 4 0 36; STOP 0 0 1");
        code(operation + " 0 0 127", "LOAD 5 0 39; " + operation + " 4 0 5; STOP 0 0 1");
    }

    private static void fork(String operation) {
        code(operation + " 1 2 -1; ADDN 3 3 1",
            "SUB 6 1 2; ADDN 3 3 1; " + operation + " 6 0 0; JUMP 0 0 5; ADDN 3 3 1; STOP 0 0 1");
        code(operation + " 4 5 1; ADDN 3 3 1; HALT", "LOAD 4 0 36; LOAD 5 0 37; SUB 6 4 5; ADDN 3 3 1; "
            + operation + " 6 0 7; JUMP 0 0 7; ADDN 3 3 1; STOP 0 0 0; STOP 0 0 1");
        code(operation + " 0 7 0; ADDN 1 1 1",
            "LOAD 5 0 39; SUB 6 0 5; ADDN 1 1 1; " + operation + " 6 0 5; JUMP 0 0 6; ADDN 1 1 1; STOP 0 0 1");
        code(operation + " 7 3 0; ADDN 1 1 1",
            "LOAD 4 0 39; SUB 6 4 3; ADDN 1 1 1; " + operation + " 6 0 5; JUMP 0 0 6; ADDN 1 1 1; STOP 0 0 1");
    }
}
