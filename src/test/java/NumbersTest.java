/** Terms: "NUMBERS are -32768 .. 32767; all arithmetic goes round." */
public final class NumbersTest {
    private static final int LEAST = -32768;
    private static final int GREATEST = 32767;

    public static void main(String[] args) {
        Check.test("the least number is one", NumbersTest::leastIsANumber);
        Check.test("the greatest number is one", NumbersTest::greatestIsANumber);
        Check.test("below the least is no number", NumbersTest::belowTheLeastIsNone);
        Check.test("above the greatest is no number", NumbersTest::aboveTheGreatestIsNone);
        Check.test("ADD goes round above the greatest", NumbersTest::addAboveTheGreatest);
        Check.test("ADD goes round below the least", NumbersTest::addBelowTheLeast);
        Check.test("ADD to the very edge does not go round", NumbersTest::addToTheEdge);
        Check.test("SUB goes round above the greatest", NumbersTest::subAboveTheGreatest);
        Check.test("SUB goes round below the least", NumbersTest::subBelowTheLeast);
        Check.test("SUB to the very edge does not go round", NumbersTest::subToTheEdge);
        Check.test("ADDN goes round above the greatest", NumbersTest::addnAboveTheGreatest);
        Check.test("ADDN goes round below the least", NumbersTest::addnBelowTheLeast);
        Check.test("ADDN to the very edge does not go round", NumbersTest::addnToTheEdge);
        Check.test("HIGH comes to the least number and not beyond", NumbersTest::highEdges);
        Check.test("AND is of all sixteen bits", NumbersTest::andOfTheEdges);
        Check.test("LESS compares numbers, not a difference that goes round", NumbersTest::lessOfTheEdges);
        Check.test("SAME and OTHER compare numbers whose difference goes round", NumbersTest::forksOfTheEdges);
        Check.test("B + C of a LOAD goes round to no cell", () -> cellsNumberGoesRound("LOAD"));
        Check.test("B + C of a STORE goes round to no cell", () -> cellsNumberGoesRound("STORE"));
        Check.test("a number goes round again and again", NumbersTest::roundAndRound);
        Check.finish();
    }

    private static void leastIsANumber() {
        starts(LEAST);
    }

    private static void greatestIsANumber() {
        starts(GREATEST);
    }

    private static void starts(int v) {
        TwoMachines x = Check.desk("HALT");
        x.register(1, v);
        x.register(7, v);
        x.data(0, v);
        Check.onBoth(x, m -> {
            Check.due("register 1 of machine " + m, x.result(m, 1), v);
            Check.due("register 7 of machine " + m, x.result(m, 7), v);
            Check.due("cell 0 of machine " + m, x.cell(m, 0), v);
        });
    }

    private static void belowTheLeastIsNone() {
        isNoNumber(LEAST - 1);
        isNoNumber(Integer.MIN_VALUE);
    }

    private static void aboveTheGreatestIsNone() {
        isNoNumber(GREATEST + 1);
        isNoNumber(65535);
        isNoNumber(65536);
        isNoNumber(Integer.MAX_VALUE);
    }

    private static void isNoNumber(int v) {
        TwoMachines x = new TwoMachines();
        Check.refused("register(1, " + v + ")", IllegalArgumentException.class, () -> x.register(1, v));
        Check.refused("data(0, " + v + ")", IllegalArgumentException.class, () -> x.data(0, v));
    }

    /** On both machines, in registers that the target has and in such as it keeps in cells. */
    private static void calculation(String operation, int left, int right, int want) {
        TwoMachines x = Check.desk(operation + " 3 1 2; " + operation + " 7 5 6");
        x.register(1, left);
        x.register(5, left);
        x.register(2, right);
        x.register(6, right);
        dueIn3And7(x, operation + " of " + left + " and " + right, want);
    }

    private static void withNumber(String operation, int left, int c, int want) {
        TwoMachines x = Check.desk(operation + " 3 1 " + c + "; " + operation + " 7 5 " + c);
        x.register(1, left);
        x.register(5, left);
        dueIn3And7(x, operation + " of " + left + " and the number " + c, want);
    }

    private static void dueIn3And7(TwoMachines x, String call, int want) {
        Check.onBoth(x, m -> {
            Check.due(call + " in register 3 of machine " + m, x.result(m, 3), want);
            Check.due(call + " in register 7 of machine " + m, x.result(m, 7), want);
        });
    }

    private static void addAboveTheGreatest() {
        calculation("ADD", GREATEST, 1, LEAST);
        calculation("ADD", 1, GREATEST, LEAST);
        calculation("ADD", GREATEST, GREATEST, -2);
    }

    private static void addBelowTheLeast() {
        calculation("ADD", LEAST, -1, GREATEST);
        calculation("ADD", -1, LEAST, GREATEST);
        calculation("ADD", LEAST, LEAST, 0);
    }

    private static void addToTheEdge() {
        calculation("ADD", GREATEST - 1, 1, GREATEST);
        calculation("ADD", LEAST + 1, -1, LEAST);
        calculation("ADD", LEAST, GREATEST, -1);
    }

    private static void subAboveTheGreatest() {
        calculation("SUB", GREATEST, -1, LEAST);
        calculation("SUB", 0, LEAST, LEAST);
        calculation("SUB", GREATEST, LEAST, -1);
    }

    private static void subBelowTheLeast() {
        calculation("SUB", LEAST, 1, GREATEST);
        calculation("SUB", -2, GREATEST, GREATEST);
        calculation("SUB", LEAST, GREATEST, 1);
    }

    private static void subToTheEdge() {
        calculation("SUB", GREATEST - 1, -1, GREATEST);
        calculation("SUB", -1, LEAST, GREATEST);
        calculation("SUB", -1, GREATEST, LEAST);
        calculation("SUB", LEAST, LEAST, 0);
    }

    private static void addnAboveTheGreatest() {
        withNumber("ADDN", GREATEST, 1, LEAST);
        withNumber("ADDN", GREATEST, 127, -32642);
        withNumber("ADDN", GREATEST - 126, 127, LEAST);
    }

    private static void addnBelowTheLeast() {
        withNumber("ADDN", LEAST, -1, GREATEST);
        withNumber("ADDN", LEAST, -128, 32640);
        withNumber("ADDN", LEAST + 127, -128, GREATEST);
    }

    private static void addnToTheEdge() {
        withNumber("ADDN", GREATEST - 127, 127, GREATEST);
        withNumber("ADDN", LEAST + 128, -128, LEAST);
    }

    private static void highEdges() {
        withNumber("HIGH", 7, -128, LEAST);
        withNumber("HIGH", 7, 127, 32512);
        withNumber("HIGH", 7, -1, -256);
        withNumber("HIGH", 7, 0, 0);
    }

    private static void andOfTheEdges() {
        calculation("AND", LEAST, GREATEST, 0);
        calculation("AND", -1, LEAST, LEAST);
        calculation("AND", -1, GREATEST, GREATEST);
        calculation("AND", -2, -1, -2);
        calculation("AND", 12, 10, 8);
    }

    private static void lessOfTheEdges() {
        calculation("LESS", LEAST, GREATEST, 1);
        calculation("LESS", GREATEST, LEAST, 0);
        calculation("LESS", LEAST, LEAST, 0);
        calculation("LESS", GREATEST, GREATEST, 0);
        calculation("LESS", LEAST, LEAST + 1, 1);
        calculation("LESS", GREATEST - 1, GREATEST, 1);
    }

    private static void forksOfTheEdges() {
        int[] numbers = {LEAST, -1, 0, 1, GREATEST};
        for (int left : numbers) {
            for (int right : numbers) {
                fork("SAME", left, right, left == right);
                fork("OTHER", left, right, left != right);
            }
        }
    }

    private static void fork(String operation, int left, int right, boolean leads) {
        TwoMachines x = Check.desk(operation + " 1 6 2; ADDN 0 0 0; ADDN 2 0 1; HALT");
        x.register(1, left);
        x.register(6, right);
        Check.onBoth(x, m -> Check.due(operation + " of " + left + " and " + right + ": register 2 of machine " + m,
            x.result(m, 2), leads ? 0 : 1));
    }

    private static void cellsNumberGoesRound(String operation) {
        int[][] sums = {{GREATEST, 1}, {GREATEST, 127}, {LEAST, -1}, {LEAST, -128}, {GREATEST - 127, 127}};
        for (int[] sum : sums) {
            TwoMachines x = Check.desk(operation + " 1 2 " + sum[1] + "; HALT");
            x.register(2, sum[0]);
            Check.onBoth(x, m -> {
                Check.due("the end of machine " + m + " with " + sum[0] + " + " + sum[1], x.result(m, 8), 2);
                Check.due("the accesses kept of machine " + m, x.result(m, 11), 0);
            });
        }
    }

    /** A round has 2 instructions in either machine, so there are 1000 of them. */
    private static void roundAndRound() {
        TwoMachines x = Check.desk("JUMP; ADD 1 1 2");
        x.register(2, GREATEST);
        Check.onBoth(x, m -> Check.due("1000 times the greatest on machine " + m, x.result(m, 1), -1000));
    }
}
