import java.util.Random;

/**
 * Programs drawn from a fixed seed: where both machines come to an end, they must have done the same to registers,
 * data and accesses. The two are written apart, so a fault of one of them or of the translating shows here.
 */
public final class AgreementTest {
    private static final int PROGRAMS = 40000;

    private static int compared = 0;
    private static int halted = 0;

    public static void main(String[] args) {
        Check.test("both machines do the same", AgreementTest::bothDoTheSame);
        Check.test("enough is compared", () -> Check.due("more than a quarter", compared > PROGRAMS / 4, true));
        Check.test("enough comes to HALT", () -> Check.due("more than a twentieth", halted > PROGRAMS / 20, true));
        System.out.println(compared + " programs compared, " + halted + " of them came to HALT");
        Check.finish();
    }

    private static void bothDoTheSame() {
        Random random = new Random(20261115);
        for (int i = 0; i < PROGRAMS; i++) {
            TwoMachines x = drawn(random);
            Check.due("translate() of program " + i, x.translate(), 0);
            x.run(0, 150);
            x.run(1, 2000);
            if (x.result(0, 8) != 0 && x.result(1, 8) != 0) {
                compared++;
                halted += x.result(0, 8) == 1 ? 1 : 0;
                compare("program " + i, x);
            }
        }
    }

    private static void compare(String name, TwoMachines x) {
        Check.due(name + ": end", x.result(1, 8), x.result(0, 8));
        Check.due(name + ": registers", Check.registersOf(x, 1), Check.registersOf(x, 0));
        Check.due(name + ": data", Check.dataOf(x, 1), Check.dataOf(x, 0));
        Check.due(name + ": accesses", Check.accessesOf(x, 1), Check.accessesOf(x, 0));
        if (x.result(0, 8) == 1) {
            Check.due(name + ": place", x.result(1, 9), x.begins(x.result(0, 9)));
        }
    }

    private static TwoMachines drawn(Random random) {
        TwoMachines x = new TwoMachines();
        int count = 1 + random.nextInt(24);
        boolean isSlot = false;
        for (int place = 0; place < count; place++) {
            boolean isLast = place == count - 1;
            int operation = isSlot || isLast ? 1 + random.nextInt(8) : random.nextInt(14);
            isSlot = operation >= 9;
            x.add(operation, random.nextInt(8), random.nextInt(8), drawnC(random, operation, place, count));
        }
        for (int r = 1; r <= 7; r++) {
            x.register(r, random.nextBoolean() ? random.nextInt(26) : (short) random.nextInt());
        }
        for (int a = 0; a < 32; a++) {
            x.data(a, random.nextBoolean() ? random.nextInt(26) : (short) random.nextInt());
        }
        return x;
    }

    private static int drawnC(Random random, int operation, int place, int count) {
        if (operation == 9 || operation == 10) {
            return random.nextInt(count) - 1 - place;
        }
        if (operation == 11 || operation == 12) {
            return random.nextInt(count);
        }
        if (operation == 7 || operation == 8) {
            return random.nextInt(40) - 8;
        }
        return random.nextInt(256) - 128;
    }
}
