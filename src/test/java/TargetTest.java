/** Terms: "THE TARGET": its registers and cells, STOP, ABOVE and the map. */
public final class TargetTest {
    public static void main(String[] args) {
        Check.test("STOP with T 0 is HALT, and is done", TargetTest::stop0);
        Check.test("STOP with T 1 is FAULT, and is done", TargetTest::stop1);
        for (String operation : new String[] {"LOAD", "STORE"}) {
            Check.test("ABOVE of " + operation + ": 0 is not", () -> cellIsThere(operation, 0));
            Check.test("ABOVE of " + operation + ": 31 is not", () -> cellIsThere(operation, 31));
            Check.test("ABOVE of " + operation + ": 32, which is equal, is", () -> cellIsNotThere(operation, 32));
            Check.test("ABOVE of " + operation + ": 33 is", () -> cellIsNotThere(operation, 33));
            Check.test("ABOVE of " + operation + ": the greatest is", () -> cellIsNotThere(operation, 32767));
            Check.test("ABOVE of " + operation + ": the least, taken as 32768, is",
                () -> cellIsNotThere(operation, -32768));
            Check.test("ABOVE of " + operation + ": -1, taken as 65535, is", () -> cellIsNotThere(operation, -1));
        }
        Check.test("ABOVE of TO: the last place is not", () -> placeIsThere(2));
        Check.test("ABOVE of TO: the place behind the last, which is equal, is", () -> placeIsNotThere(3));
        Check.test("ABOVE of TO: the greatest is", () -> placeIsNotThere(32767));
        Check.test("ABOVE of TO: the least, taken as 32768, is", () -> placeIsNotThere(-32768));
        Check.test("ABOVE of TO: -1, taken as 65535, is", () -> placeIsNotThere(-1));
        Check.test("registers 1 to 3 are the source's, and 4 to 7 are kept in cells", TargetTest::whereRegistersAre);
        Check.test("fields D and S are 0 .. 6, and none writes register 0", TargetTest::fieldsOfTheCode);
        Check.test("accesses are not those to the registers' cells", TargetTest::registersAreNoAccesses);
        Check.test("accesses are not those to the map", TargetTest::mapIsNoAccess);
        Check.test("the map has every place of a program of 24", TargetTest::mapOfAFullProgram);
        Check.test("the map is that of the latest code", TargetTest::mapOfTheLatestCode);
        Check.test("the helpers are not seen among the registers", TargetTest::helpersAreNotSeen);
        Check.finish();
    }

    private static void stop0() {
        TwoMachines x = Check.translated("ADDN 1 0 1; HALT; ADDN 1 0 2");
        Check.due("run(1, 50)", x.run(1, 50), 2);
        Check.due("the end, the place, done, kept", Check.endOf(x, 1), "[1, 1, 2, 0]");
    }

    private static void stop1() {
        TwoMachines x = Check.translated("ADDN 1 0 1");
        Check.due("run(1, 50)", x.run(1, 50), 2);
        Check.due("the end, the place, done, kept", Check.endOf(x, 1), "[2, 1, 2, 0]");
        TwoMachines y = new TwoMachines();
        y.translate();
        Check.due("run(1, 50) of END alone", y.run(1, 50), 1);
        Check.due("the end, the place, done, kept", Check.endOf(y, 1), "[2, 0, 1, 0]");
    }

    private static TwoMachines reaching(String operation, int a) {
        TwoMachines x = Check.translated(operation + " 1 3 0; HALT");
        x.register(1, 99);
        x.register(3, a);
        x.run(1, 50);
        return x;
    }

    private static void cellIsThere(String operation, int a) {
        TwoMachines x = reaching(operation, a);
        Check.due("the end, the place, done, kept", Check.endOf(x, 1), "[1, 4, 5, 1]");
        Check.due("the cell", x.access(1, 0, 0), a);
    }

    private static void cellIsNotThere(String operation, int a) {
        TwoMachines x = reaching(operation, a);
        Check.due("the end, the place, done, kept", Check.endOf(x, 1), "[2, 5, 4, 0]");
        Check.due("registers", Check.registersOf(x, 1), "0 99 0 " + a + " 0 0 0 0");
        Check.due("data", Check.dataOf(x, 1), Check.dataWith());
    }

    private static TwoMachines leading(int place) {
        TwoMachines x = Check.translated("TO 2 0 0; ADDN 1 1 1; HALT");
        x.register(2, place);
        x.run(1, 50);
        return x;
    }

    private static void placeIsThere(int place) {
        TwoMachines x = leading(place);
        Check.due("the end, the place, done, kept", Check.endOf(x, 1), "[1, " + x.begins(place) + ", 7, 0]");
    }

    private static void placeIsNotThere(int place) {
        TwoMachines x = leading(place);
        Check.due("the end, the place, done, kept", Check.endOf(x, 1), "[2, " + x.begins(3) + ", 5, 0]");
        Check.due("the slot is done", x.result(1, 1), 1);
    }

    private static void whereRegistersAre() {
        TwoMachines x = Check.translated("ADDN 3 3 1; ADDN 4 4 1; ADDN 7 7 1");
        for (int r = 1; r <= 7; r++) {
            x.register(r, 10 * r);
        }
        x.run(1, 0);
        Check.due("registers at first", Check.registersOf(x, 1), "0 10 20 30 40 50 60 70");
        x.run(1, 1);
        Check.due("registers when 3 is written", Check.registersOf(x, 1), "0 10 20 31 40 50 60 70");
        x.run(1, 3);
        Check.due("registers when 4 is only in a helper", Check.registersOf(x, 1), "0 10 20 31 40 50 60 70");
        x.run(1, 4);
        Check.due("registers when 4 is kept", Check.registersOf(x, 1), "0 10 20 31 41 50 60 70");
        x.run(1, 50);
        Check.due("registers behind the run", Check.registersOf(x, 1), "0 10 20 31 41 50 60 71");
    }

    private static void fieldsOfTheCode() {
        for (int operation = 1; operation <= 13; operation++) {
            for (int a = 0; a <= 7; a++) {
                for (int b = 0; b <= 7; b++) {
                    dueFields(Check.nameOf(operation) + " " + a + " " + b + " 1; ADDN " + b + " " + a + " 7; HALT");
                }
            }
        }
    }

    private static void dueFields(String program) {
        TwoMachines x = Check.translated(program);
        for (int place = 0; place < x.size(); place++) {
            int operation = x.code(place, 0);
            int d = x.code(place, 1);
            int s = x.code(place, 2);
            Check.due("D and S are registers in the code of " + program, d >= 0 && d <= 6 && s >= 0 && s <= 6, true);
            boolean writes = operation >= 1 && operation <= 7;
            Check.due("register 0 is written in the code of " + program, writes && d == 0, false);
        }
    }

    private static void registersAreNoAccesses() {
        TwoMachines x = Check.desk("ADD 4 5 6; ADDN 7 7 1; STORE 4 0 31; LOAD 5 0 0");
        x.register(5, 2);
        x.register(6, 3);
        Check.dueAccesses(x, "31 written 5; 0 read 0");
    }

    private static void mapIsNoAccess() {
        TwoMachines x = Check.desk("TO 4 0 0; ADDN 5 5 1; HALT");
        x.register(4, 2);
        Check.dueAccesses(x, "");
    }

    private static void mapOfAFullProgram() {
        TwoMachines x = Check.translated("TO 1 0 0; ADDN 0 0 0; " + Check.times(22, "HALT"));
        for (int place = 2; place < 24; place++) {
            x.register(1, place);
            x.run(1, 50);
            Check.due("the end of TO " + place, x.result(1, 8), 1);
            Check.due("the place of TO " + place, x.result(1, 9), x.begins(place));
        }
        x.register(1, 1);
        x.run(1, 50);
        Check.due("the place of TO its slot", x.result(1, 9), x.begins(2));
        x.register(1, 0);
        Check.due("TO itself goes on and on", x.run(1, 50), 50);
        x.register(1, 24);
        x.run(1, 50);
        Check.due("the place of TO 24", x.result(1, 9), x.begins(24));
        Check.due("the end of TO 24", x.result(1, 8), 2);
    }

    private static void mapOfTheLatestCode() {
        TwoMachines x = Check.translated("TO 1 0 0; ADDN 0 0 0; ADD 4 4 4; HALT");
        x.register(1, 3);
        x.run(1, 50);
        Check.due("the place", x.result(1, 9), x.begins(3));
        x.clear();
        Check.addAll(x, "TO 1 0 0; ADDN 0 0 0; ADD 2 2 2; HALT");
        x.translate();
        x.run(1, 50);
        Check.due("the place in the later code", x.result(1, 9), x.begins(3));
        Check.due("the end in the later code", x.result(1, 8), 1);
    }

    private static void helpersAreNotSeen() {
        TwoMachines x = Check.translated("SAME 1 2 0; LOAD 0 0 3; ADD 0 1 1; HALT");
        x.register(1, 6);
        x.data(3, 33);
        x.run(1, 50);
        Check.due("registers", Check.registersOf(x, 1), "0 6 0 0 0 0 0 0");
    }
}
