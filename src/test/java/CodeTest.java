import java.util.NoSuchElementException;

/** Promises 4 to 7: translate, size, code, begins. */
public final class CodeTest {
    public static void main(String[] args) {
        translate();
        size();
        code();
        begins();
        Check.finish();
    }

    private static void translate() {
        Check.test("promise 4: 0, and there is code then", CodeTest::translates);
        Check.test("promise 4: without a program there is code then", CodeTest::translatesNothing);
        Check.test("promise 4: the reason + 16 * the place, at place 0", () -> isRefused("14", 1));
        Check.test("promise 4: the reason + 16 * the place, at place 23",
            () -> isRefused(Check.times(23, "HALT") + "; JUMP", 2 + 16 * 23));
        Check.test("promise 4: refused, there is no code then", CodeTest::refusedHasNoCode);
        Check.test("promise 4: refused, the program stays", CodeTest::refusedKeepsTheProgram);
        Check.test("promise 4: it may be called again", CodeTest::translatesAgain);
        Check.test("promise 4: the latest runs stay", CodeTest::translateKeepsRuns);
    }

    private static void size() {
        Check.test("promise 5: 0 before there is code", () -> Check.due("size()", Check.desk("HALT").size(), 0));
        Check.test("promise 5: 1 without a program", () -> sizeOf(new TwoMachines(), 1));
        Check.test("promise 5: 2 of one HALT", () -> sizeOf(Check.desk("HALT"), 2));
        Check.test("promise 5: 217 of the longest",
            () -> sizeOf(Check.desk(Check.times(12, "TO 7 0 0; STORE 6 5 0")), 217));
    }

    private static void code() {
        Check.test("promise 6: what = 0 .. 3", CodeTest::whatOfCode);
        Check.test("promise 6: fields that are not said are 0", CodeTest::fieldsNotSaid);
        Check.test("promise 6: the last place is that of END", CodeTest::lastPlaceOfCode);
        Check.test("promise 6: what = -1 is none of these", () -> wrongWhat(-1));
        Check.test("promise 6: what = 4 is none of these", () -> wrongWhat(4));
        Check.test("promise 6: what far outside is none of these", () -> {
            wrongWhat(Integer.MIN_VALUE);
            wrongWhat(Integer.MAX_VALUE);
        });
        Check.test("promise 6: there is none at place -1", () -> noCodeAt(-1));
        Check.test("promise 6: there is none behind the last place", () -> noCodeAt(2));
        Check.test("promise 6: there is none far outside", () -> {
            noCodeAt(Integer.MIN_VALUE);
            noCodeAt(Integer.MAX_VALUE);
            noCodeAt(1 << 30);
        });
        Check.test("promise 6: there is none without code", CodeTest::codeWithoutCode);
        Check.test("promise 6: there is none where a longer code had one", CodeTest::codeOfAShorterOne);
        Check.test("promise 6: IllegalArgumentException first", CodeTest::codeWrongTwice);
    }

    private static void begins() {
        Check.test("promise 7: each place, and that behind the last one", CodeTest::beginsOfEachPlace);
        Check.test("promise 7: place 0 without a program is that behind its last one", CodeTest::beginsOfNothing);
        Check.test("promise 7: place 24 of 24", CodeTest::beginsOfAFullProgram);
        Check.test("promise 7: no place -1", () -> noSuchPlace(-1));
        Check.test("promise 7: none two behind the last one", () -> noSuchPlace(3));
        Check.test("promise 7: none far outside", () -> {
            noSuchPlace(Integer.MIN_VALUE);
            noSuchPlace(Integer.MAX_VALUE);
        });
        Check.test("promise 7: no code", CodeTest::beginsWithoutCode);
        Check.test("promise 7: no place where a longer program had one", CodeTest::beginsOfAShorterOne);
    }

    private static void translates() {
        TwoMachines x = Check.desk("ADDN 1 0 1; HALT");
        Check.due("translate()", x.translate(), 0);
        Check.due("the code", Check.codeOf(x), "ADDN 1 0 1; STOP 0 0 0; STOP 0 0 1");
        Check.due("begins(2)", x.begins(2), 2);
        Check.due("run(1, 9)", x.run(1, 9), 2);
    }

    private static void translatesNothing() {
        TwoMachines x = new TwoMachines();
        Check.due("translate()", x.translate(), 0);
        Check.due("the code", Check.codeOf(x), "STOP 0 0 1");
        Check.due("run(1, 9)", x.run(1, 9), 1);
    }

    private static void isRefused(String program, int want) {
        TwoMachines x = Check.desk(program);
        Check.due("translate()", x.translate(), want);
        hasNoCode(x);
    }

    private static void hasNoCode(TwoMachines x) {
        Check.due("size()", x.size(), 0);
        Check.refused("code(0, 0)", NoSuchElementException.class, () -> x.code(0, 0));
        Check.refused("begins(0)", NoSuchElementException.class, () -> x.begins(0));
        Check.refused("run(1, 1)", IllegalStateException.class, () -> x.run(1, 1));
    }

    private static void refusedHasNoCode() {
        TwoMachines x = Check.translated("ADDN 1 0 1");
        x.add(11, 0, 0, 0);
        Check.due("translate()", x.translate(), 2 + 16);
        hasNoCode(x);
    }

    private static void refusedKeepsTheProgram() {
        TwoMachines x = Check.desk("ADDN 1 0 1; JUMP");
        Check.due("translate()", x.translate(), 2 + 16);
        Check.due("add of a slot", x.add(5, 0, 0, 0), 2);
        Check.due("translate() with a slot", x.translate(), 0);
        Check.due("the code", Check.codeOf(x), "ADDN 1 0 1; ADDN 4 0 0; JUMP 0 0 0; ADDN 4 0 0; STOP 0 0 1");
    }

    private static void translatesAgain() {
        TwoMachines x = Check.translated("JUMP 0 0 3; ADDN 1 0 1; HALT; ADDN 5 6 1");
        String code = Check.codeOf(x);
        Check.due("translate() again", x.translate(), 0);
        Check.due("the code again", Check.codeOf(x), code);
        TwoMachines y = Check.desk("HALT; 14");
        Check.due("translate() refused", y.translate(), 1 + 16);
        Check.due("translate() refused again", y.translate(), 1 + 16);
    }

    private static void translateKeepsRuns() {
        TwoMachines x = Check.translated("ADDN 4 0 1; STORE 4 0 3; HALT");
        x.run(0, 50);
        x.run(1, 50);
        x.clear();
        Check.addAll(x, "HIGH 4 0 1; HIGH 3 0 1");
        String before = Check.stateOf(x, 0) + Check.stateOf(x, 1);
        x.translate();
        Check.due("the latest runs", Check.stateOf(x, 0) + Check.stateOf(x, 1), before);
    }

    private static void sizeOf(TwoMachines x, int want) {
        x.translate();
        Check.due("size()", x.size(), want);
    }

    private static void whatOfCode() {
        TwoMachines x = Check.translated("SUB 3 1 2");
        Check.due("code(0, 0)", x.code(0, 0), 2);
        Check.due("code(0, 1)", x.code(0, 1), 3);
        Check.due("code(0, 2)", x.code(0, 2), 1);
        Check.due("code(0, 3)", x.code(0, 3), 2);
    }

    /** Fields of the source that mean nothing must not come to the code. */
    private static void fieldsNotSaid() {
        String program = "HALT 7 6 5; HIGH 1 7 9; JUMP 7 7 0; ADDN 1 1 1; TO 1 7 99; ADDN 1 1 1";
        Check.due("the code", Check.codeOf(Check.translated(program)),
            "STOP 0 0 0; HIGH 1 0 9; ADDN 1 1 1; JUMP 0 0 0; ADDN 1 1 1; ADDN 6 1 0; ADDN 1 1 1; ADDN 4 0 6; "
            + "ABOVE 6 4 12; LOAD 4 6 40; TO 4 0 0; ADDN 1 1 1; STOP 0 0 1");
    }

    private static void lastPlaceOfCode() {
        TwoMachines x = Check.translated("HALT");
        Check.due("code(1, 0)", x.code(1, 0), 0);
        Check.due("code(1, 3)", x.code(1, 3), 1);
    }

    private static void wrongWhat(int what) {
        TwoMachines x = Check.translated("HALT");
        Check.refused("code(0, " + what + ")", IllegalArgumentException.class, () -> x.code(0, what));
        Check.refused("code(1, " + what + ")", IllegalArgumentException.class, () -> x.code(1, what));
    }

    private static void noCodeAt(int place) {
        TwoMachines x = Check.translated("HALT");
        for (int what = 0; what <= 3; what++) {
            int w = what;
            Check.refused("code(" + place + ", " + w + ")", NoSuchElementException.class, () -> x.code(place, w));
        }
    }

    private static void codeWithoutCode() {
        TwoMachines x = Check.desk("HALT");
        Check.refused("code(0, 0)", NoSuchElementException.class, () -> x.code(0, 0));
        Check.refused("code(0, 3)", NoSuchElementException.class, () -> x.code(0, 3));
    }

    private static void codeOfAShorterOne() {
        TwoMachines x = Check.translated("ADD 4 5 6; HALT");
        x.clear();
        Check.addAll(x, "HALT");
        x.translate();
        Check.due("code(1, 3)", x.code(1, 3), 1);
        Check.refused("code(2, 0)", NoSuchElementException.class, () -> x.code(2, 0));
    }

    private static void codeWrongTwice() {
        TwoMachines x = Check.desk("HALT");
        Check.refused("code(0, 4) without code", IllegalArgumentException.class, () -> x.code(0, 4));
        Check.refused("code(-1, -1) without code", IllegalArgumentException.class, () -> x.code(-1, -1));
        x.translate();
        Check.refused("code(2, 4)", IllegalArgumentException.class, () -> x.code(2, 4));
        Check.refused("code(-1, -1)", IllegalArgumentException.class, () -> x.code(-1, -1));
    }

    private static void beginsOfEachPlace() {
        TwoMachines x = Check.translated("ADD 4 5 6; JUMP 0 0 4; LOAD 1 2 3; HALT; STORE 1 2 3");
        int[] want = {0, 4, 9, 13, 14, 18};
        for (int place = 0; place <= 5; place++) {
            Check.due("begins(" + place + ")", x.begins(place), want[place]);
        }
        Check.due("size()", x.size(), 19);
    }

    private static void beginsOfNothing() {
        TwoMachines x = new TwoMachines();
        x.translate();
        Check.due("begins(0)", x.begins(0), 0);
        Check.refused("begins(1)", NoSuchElementException.class, () -> x.begins(1));
    }

    private static void beginsOfAFullProgram() {
        TwoMachines x = Check.translated(Check.times(24, "HALT"));
        Check.due("begins(23)", x.begins(23), 23);
        Check.due("begins(24)", x.begins(24), 24);
        Check.refused("begins(25)", NoSuchElementException.class, () -> x.begins(25));
    }

    private static void noSuchPlace(int place) {
        TwoMachines x = Check.translated("HALT; HALT");
        Check.refused("begins(" + place + ")", NoSuchElementException.class, () -> x.begins(place));
    }

    private static void beginsWithoutCode() {
        TwoMachines x = Check.desk("HALT");
        for (int place = -1; place <= 2; place++) {
            int p = place;
            Check.refused("begins(" + p + ")", NoSuchElementException.class, () -> x.begins(p));
        }
    }

    private static void beginsOfAShorterOne() {
        TwoMachines x = Check.translated("HALT; HALT; HALT");
        x.clear();
        Check.addAll(x, "HALT");
        x.translate();
        Check.due("begins(1)", x.begins(1), 1);
        Check.refused("begins(2)", NoSuchElementException.class, () -> x.begins(2));
    }
}
