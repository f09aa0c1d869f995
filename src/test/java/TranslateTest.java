import java.util.NoSuchElementException;

/** Promises 4 to 7: translate, size, code, begins. */
public final class TranslateTest {
    public static void main(String[] args) {
        refusals();
        refusedHasNoCode();
        translatedAgain();
        emptyProgram();
        calculations();
        cellsReached();
        branches();
        slots();
        longestCode();
        codeRefuses();
        beginsAnswers();
        Check.finish();
    }

    private static void refusal(int want, int... instructions) {
        TwoMachines x = Check.desk(instructions);
        Check.due("translate of " + java.util.Arrays.toString(instructions), x.translate(), want);
        Check.due("whether there is code of " + java.util.Arrays.toString(instructions), x.size() > 0, want == 0);
    }

    private static void refusals() {
        refusal(1, 14, 0, 0, 0);
        refusal(1, 15, 0, 0, 0);
        refusal(1 + 16, 0, 0, 0, 0, 15, 0, 0, 0);
        for (int branch = 9; branch <= 13; branch++) {
            refusal(2, branch, 0, 0, 0);
            refusal(2, branch, 0, 0, 0, 0, 0, 0, 0);
            for (int slot = 9; slot <= 13; slot++) {
                refusal(2, branch, 0, 0, 0, slot, 0, 0, 0, 5, 0, 0, 0);
            }
            for (int slot = 1; slot <= 8; slot++) {
                refusal(0, branch, 0, 0, 0, slot, 0, 0, 0);
            }
            refusal(1 + 16, branch, 0, 0, 0, 14, 0, 0, 0);
            refusal(2 + 16 * 2, 5, 0, 0, 0, 0, 0, 0, 0, branch, 0, 0, 0);
        }
        for (int fork = 9; fork <= 10; fork++) {
            refusal(0, fork, 1, 2, -1, 5, 0, 0, 0);
            refusal(3, fork, 1, 2, -2, 5, 0, 0, 0);
            refusal(0, fork, 1, 2, 0, 5, 0, 0, 0);
            refusal(3, fork, 1, 2, 1, 5, 0, 0, 0);
            refusal(3 + 16, 5, 0, 0, 0, fork, 1, 1, 1, 5, 0, 0, 0);
            refusal(0, 5, 0, 0, 0, fork, 1, 1, -2, 5, 0, 0, 0);
            refusal(3 + 16, 5, 0, 0, 0, fork, 1, 1, -3, 5, 0, 0, 0);
            refusal(2, fork, 1, 2, 100);
        }
        for (int jump = 11; jump <= 12; jump++) {
            refusal(0, jump, 0, 0, 1, 5, 0, 0, 0);
            refusal(3, jump, 0, 0, 2, 5, 0, 0, 0);
            refusal(3, jump, 0, 0, -1, 5, 0, 0, 0);
            refusal(3, jump, 0, 0, 127, 14, 0, 0, 0);
        }
        refusal(0, 13, 1, 0, 127, 5, 0, 0, 0);
        refusal(3, 11, 0, 0, 9, 5, 0, 0, 0, 14, 0, 0, 0);
        refusal(2 + 16 * 23, lastOf24(11, 0));
        refusal(1 + 16 * 23, lastOf24(14, 0));
        refusal(0, lastOf24(5, 127));
    }

    private static int[] lastOf24(int operation, int c) {
        int[] all = new int[96];
        for (int i = 0; i < 23; i++) {
            all[4 * i] = 5;
        }
        all[92] = operation;
        all[95] = c;
        return all;
    }

    private static void refusedHasNoCode() {
        TwoMachines x = Check.desk(5, 1, 0, 1);
        Check.due("translate()", x.translate(), 0);
        x.add(11, 0, 0, 0);
        Check.due("translate() refused", x.translate(), 2 + 16);
        Check.due("size() of refused", x.size(), 0);
        Check.refused("code of refused", NoSuchElementException.class, () -> x.code(0, 0));
        Check.refused("begins of refused", NoSuchElementException.class, () -> x.begins(0));
        Check.refused("run of refused", IllegalStateException.class, () -> x.run(1, 1));
        Check.due("the program stays", x.add(5, 0, 0, 0), 2);
        Check.due("translate() with a slot", x.translate(), 0);
        Check.due("the code", Check.codeOf(x), "5 1 0 1; 5 4 0 0; 11 0 0 0; 5 4 0 0; 0 0 0 1");
    }

    private static void translatedAgain() {
        TwoMachines x = Check.desk(11, 0, 0, 3, 5, 1, 0, 1, 0, 0, 0, 0, 5, 5, 6, 1);
        x.translate();
        String code = Check.codeOf(x);
        Check.due("translate() again", x.translate(), 0);
        Check.due("the code again", Check.codeOf(x), code);
    }

    private static void emptyProgram() {
        TwoMachines x = new TwoMachines();
        Check.due("translate() of nothing", x.translate(), 0);
        Check.due("the code of nothing", Check.codeOf(x), "0 0 0 1");
        Check.due("begins(0) of nothing", x.begins(0), 0);
        Check.refused("begins(1) of nothing", NoSuchElementException.class, () -> x.begins(1));
    }

    private static void code(String want, int... instructions) {
        TwoMachines x = Check.desk(instructions);
        x.translate();
        Check.due("the code of " + java.util.Arrays.toString(instructions), Check.codeOf(x), want);
    }

    private static void calculations() {
        code("0 0 0 0; 0 0 0 1", 0, 7, 6, 5);
        for (int op = 1; op <= 4; op++) {
            code(op + " 3 1 2; 0 0 0 1", op, 3, 1, 2);
            code(op + " 1 0 0; 0 0 0 1", op, 1, 0, 0);
            code(op + " 4 2 3; 0 0 0 1", op, 0, 2, 3);
            code(op + " 2 1 3; 0 0 0 1", op, 2, 1, 11);
            code("7 4 0 36; 7 5 0 39; " + op + " 4 4 5; 8 4 0 38; 0 0 0 1", op, 6, 4, 7);
            code("7 5 0 37; " + op + " 3 3 5; 0 0 0 1", op, 3, 3, -3);
            code("7 4 0 39; " + op + " 4 4 0; 8 4 0 36; 0 0 0 1", op, 4, 7, -128);
            code("7 5 0 39; " + op + " 4 0 5; 0 0 0 1", op, 0, 0, 127);
        }
        code("5 3 2 -128; 0 0 0 1", 5, 3, 2, -128);
        code("5 4 2 127; 0 0 0 1", 5, 0, 2, 127);
        code("7 4 0 37; 5 4 4 9; 8 4 0 36; 0 0 0 1", 5, 4, 5, 9);
        code("6 1 0 127; 0 0 0 1", 6, 1, 7, 127);
        code("6 4 0 -128; 8 4 0 39; 0 0 0 1", 6, 7, 3, -128);
        code("6 4 0 1; 0 0 0 1", 6, 0, 0, 1);
    }

    private static void cellsReached() {
        code("5 5 2 -7; 5 4 0 32; 12 5 4 4; 7 3 5 0; 0 0 0 1", 7, 3, 2, -7);
        code("5 5 0 31; 5 4 0 32; 12 5 4 4; 7 4 5 0; 0 0 0 1", 7, 0, 0, 31);
        code("7 4 0 39; 5 5 4 1; 5 4 0 32; 12 5 4 6; 7 4 5 0; 8 4 0 36; 0 0 0 1", 7, 4, 7, 1);
        code("5 5 2 -7; 5 4 0 32; 12 5 4 4; 8 3 5 0; 0 0 0 1", 8, 3, 2, -7);
        code("5 5 0 31; 5 4 0 32; 12 5 4 4; 8 0 5 0; 0 0 0 1", 8, 0, 0, 31);
        code("7 4 0 39; 5 5 4 1; 5 4 0 32; 12 5 4 6; 7 4 0 36; 8 4 5 0; 0 0 0 1", 8, 4, 7, 1);
    }

    private static void branches() {
        for (int op = 9; op <= 10; op++) {
            code("2 6 1 2; 5 3 3 1; " + op + " 6 0 0; 11 0 0 5; 5 3 3 1; 0 0 0 1", op, 1, 2, -1, 5, 3, 3, 1);
            code("7 4 0 36; 7 5 0 37; 2 6 4 5; 5 3 3 1; " + op + " 6 0 7; 11 0 0 7; 5 3 3 1; 0 0 0 0; 0 0 0 1",
                op, 4, 5, 1, 5, 3, 3, 1, 0, 0, 0, 0);
            code("7 5 0 39; 2 6 0 5; 5 1 1 1; " + op + " 6 0 5; 11 0 0 6; 5 1 1 1; 0 0 0 1", op, 0, 7, 0, 5, 1, 1, 1);
        }
        code("5 1 1 1; 11 0 0 2; 5 1 1 1; 0 0 0 1", 11, 7, 7, 1, 5, 1, 1, 1);
        code("5 2 0 1; 5 1 1 1; 11 0 0 0; 5 1 1 1; 0 0 0 1", 5, 2, 0, 1, 11, 0, 0, 0, 5, 1, 1, 1);
        code("5 2 0 1; 5 4 0 3; 8 4 0 39; 5 1 1 1; 11 0 0 0; 5 1 1 1; 0 0 0 1",
            5, 2, 0, 1, 12, 0, 0, 0, 5, 1, 1, 1);
        code("5 6 3 0; 5 1 1 1; 5 4 0 2; 12 6 4 7; 7 4 6 40; 13 4 0 0; 5 1 1 1; 0 0 0 1",
            13, 3, 5, 99, 5, 1, 1, 1);
        code("7 4 0 37; 5 6 4 0; 5 1 1 1; 5 4 0 3; 12 6 4 9; 7 4 6 40; 13 4 0 0; 5 1 1 1; 0 0 0 0; 0 0 0 1",
            13, 5, 0, 0, 5, 1, 1, 1, 0, 0, 0, 0);
    }

    private static void slots() {
        code("7 4 0 37; 5 5 4 2; 5 4 0 32; 12 5 4 13; 7 4 0 38; 8 4 5 0; 11 0 0 7; "
            + "7 4 0 37; 5 5 4 2; 5 4 0 32; 12 5 4 13; 7 4 0 38; 8 4 5 0; 0 0 0 1",
            11, 0, 0, 1, 8, 6, 5, 2);
        code("5 4 0 2; 8 4 0 39; 6 4 0 3; 8 4 0 38; 11 0 0 0; 6 4 0 3; 8 4 0 38; 0 0 0 1",
            12, 0, 0, 0, 6, 6, 0, 3);
    }

    private static void longestCode() {
        int[] all = new int[96];
        for (int i = 0; i < 24; i += 2) {
            all[4 * i] = 13;
            all[4 * i + 1] = 7;
            all[4 * i + 4] = 8;
            all[4 * i + 5] = 6;
            all[4 * i + 6] = 5;
        }
        TwoMachines x = Check.desk(all);
        Check.due("translate() of the longest", x.translate(), 0);
        Check.due("size() of the longest", x.size(), 217);
        Check.due("begins(23) of the longest", x.begins(23), 210);
        Check.due("begins(24) of the longest", x.begins(24), 216);
        Check.due("its END", x.code(216, 0) + " " + x.code(216, 3), "0 1");
        Check.due("its last but one", x.code(215, 0), 8);
        x.register(7, 22);
        x.register(5, 32);
        Check.due("the longest runs to its fault", x.run(1, 2000), 7);
        Check.due("which is END", x.result(1, 9), 216);
        x.register(5, 31);
        Check.due("the longest runs on", x.run(1, 2000), 2000);
        x.register(7, 24);
        Check.due("the longest leads out", x.run(1, 2000), 11);
        Check.due("which is END, too", x.result(1, 9), 216);
    }

    private static void codeRefuses() {
        TwoMachines x = Check.desk(5, 1, 0, 1);
        Check.refused("code(0, 4) without code", IllegalArgumentException.class, () -> x.code(0, 4));
        x.translate();
        Check.refused("code(0, -1)", IllegalArgumentException.class, () -> x.code(0, -1));
        Check.refused("code(0, 4)", IllegalArgumentException.class, () -> x.code(0, 4));
        Check.refused("code(9, 4)", IllegalArgumentException.class, () -> x.code(9, 4));
        Check.refused("code(-1, 0)", NoSuchElementException.class, () -> x.code(-1, 0));
        Check.refused("code(2, 0)", NoSuchElementException.class, () -> x.code(2, 0));
        Check.refused("code(MAX, 3)", NoSuchElementException.class, () -> x.code(Integer.MAX_VALUE, 3));
        Check.refused("code(MIN, 3)", NoSuchElementException.class, () -> x.code(Integer.MIN_VALUE, 3));
        Check.due("code(1, 3)", x.code(1, 3), 1);
    }

    private static void beginsAnswers() {
        TwoMachines x = Check.desk(1, 4, 5, 6, 11, 0, 0, 4, 7, 1, 2, 3, 0, 0, 0, 0, 8, 1, 2, 3);
        x.translate();
        int[] want = {0, 4, 9, 13, 14, 18};
        for (int place = 0; place <= 5; place++) {
            Check.due("begins(" + place + ")", x.begins(place), want[place]);
        }
        Check.due("size()", x.size(), 19);
        Check.refused("begins(-1)", NoSuchElementException.class, () -> x.begins(-1));
        Check.refused("begins(6)", NoSuchElementException.class, () -> x.begins(6));
        Check.refused("begins(MAX)", NoSuchElementException.class, () -> x.begins(Integer.MAX_VALUE));
        Check.refused("begins(MIN)", NoSuchElementException.class, () -> x.begins(Integer.MIN_VALUE));
        x.clear();
        x.add(0, 0, 0, 0);
        x.translate();
        Check.due("begins(1) of a shorter one", x.begins(1), 1);
        Check.refused("begins(2) of a shorter one", NoSuchElementException.class, () -> x.begins(2));
    }
}
