import java.util.ArrayList;
import java.util.Arrays;
import java.util.List;
import java.util.Random;

/**
 * Runs of 512 calls drawn from a fixed seed, right and wrong ones, with numbers at and beside all bounds: every answer
 * must be the model's, and nothing but the document's exceptions may be thrown.
 */
public final class ModelTest {
    private static final int OBJECTS = 3000;
    private static final int CALLS = 512;
    private static final int[] EDGES = {Integer.MIN_VALUE, -65536, -32769, -32768, -129, -128, -2, -1, 0, 1, 2, 3, 4, 7,
        8, 11, 12, 15, 16, 23, 24, 25, 31, 32, 39, 40, 63, 64, 127, 128, 216, 217, 2000, 2001, 32767, 32768, 65536,
        Integer.MAX_VALUE};

    private static int answers = 0;
    private static int runsOfTheTarget = 0;
    private static int refusals = 0;

    private final Random random;
    private final TwoMachines program = new TwoMachines();
    private final Model model = new Model();
    private final List<String> calls = new ArrayList<>();

    private ModelTest(int seed) {
        random = new Random(seed);
    }

    public static void main(String[] args) {
        Check.test("every answer is the model's", () -> {
            for (int seed = 0; seed < OBJECTS; seed++) {
                new ModelTest(seed).compare();
            }
        });
        Check.test("enough is compared", () -> {
            Check.due("enough runs of the target", runsOfTheTarget > OBJECTS, true);
            Check.due("enough refused calls", refusals > 10 * OBJECTS, true);
        });
        System.out.println(answers + " answers, " + runsOfTheTarget + " runs of the target, " + refusals + " refused");
        Check.finish();
    }

    private void compare() {
        while (calls.size() < CALLS) {
            writeProgram();
            setStarts();
            call("translate");
            call("run", 0, limit());
            call("run", 1, limit());
            for (int look = random.nextInt(60); look > 0; look--) {
                look();
            }
            if (random.nextInt(3) > 0) {
                call("clear");
            }
        }
    }

    private void call(String name, int... n) {
        if (calls.size() >= CALLS) {
            return;
        }
        calls.add(name + Arrays.toString(n));
        String got = answer(name, n);
        String want = model.answer(name, n);
        answers++;
        runsOfTheTarget += name.equals("run") && n[0] == 1 && !want.startsWith("throws") ? 1 : 0;
        refusals += want.startsWith("throws") ? 1 : 0;
        if (!got.equals(want)) {
            Check.due("behind " + calls + " the last one", got, want);
        }
    }

    private String answer(String name, int[] n) {
        try {
            return programsAnswer(name, n);
        } catch (RuntimeException e) {
            return "throws " + e.getClass().getSimpleName();
        }
    }

    private String programsAnswer(String name, int[] n) {
        switch (name) {
            case "add":
                return "" + program.add(n[0], n[1], n[2], n[3]);
            case "clear":
                return "" + program.clear();
            case "translate":
                return "" + program.translate();
            case "size":
                return "" + program.size();
            case "code":
                return "" + program.code(n[0], n[1]);
            case "begins":
                return "" + program.begins(n[0]);
            case "register":
                program.register(n[0], n[1]);
                return "done";
            case "data":
                program.data(n[0], n[1]);
                return "done";
            case "run":
                return "" + program.run(n[0], n[1]);
            case "result":
                return "" + program.result(n[0], n[1]);
            case "cell":
                return "" + program.cell(n[0], n[1]);
            default:
                return "" + program.access(n[0], n[1], n[2]);
        }
    }

    /** Now and then with what add or translate refuses; most programs must pass, or no code would ever run. */
    private void writeProgram() {
        int count = random.nextInt(26);
        boolean isSlot = false;
        boolean isTidy = random.nextInt(4) > 0;
        for (int place = 0; place < count; place++) {
            boolean mustBeSimple = isTidy && (isSlot || place >= count - 1 || place >= 23);
            int operation = mustBeSimple ? 1 + random.nextInt(8) : random.nextInt(isTidy ? 14 : 16);
            isSlot = operation >= 9;
            call("add", operation, random.nextInt(8), random.nextInt(8), c(operation, place, Math.min(count, 24)));
            if (random.nextInt(40) == 0) {
                call("add", nearly(random.nextInt(16)), nearly(random.nextInt(8)), nearly(random.nextInt(8)), edge());
            }
        }
    }

    private int c(int operation, int place, int count) {
        if (random.nextInt(30) == 0) {
            return random.nextInt(256) - 128;
        }
        if (operation == 9 || operation == 10) {
            return random.nextInt(count) - 1 - place;
        }
        if (operation == 11 || operation == 12) {
            return random.nextInt(count);
        }
        if (operation == 7 || operation == 8) {
            return random.nextInt(36) - 2;
        }
        return random.nextInt(256) - 128;
    }

    private void setStarts() {
        for (int i = random.nextInt(12); i > 0; i--) {
            call("register", nearly(1 + random.nextInt(7)), startValue());
            call("data", nearly(random.nextInt(32)), startValue());
        }
    }

    private int startValue() {
        switch (random.nextInt(3)) {
            case 0:
                return random.nextInt(32);
            case 1:
                return (short) random.nextInt();
            default:
                return edge();
        }
    }

    private int limit() {
        switch (random.nextInt(4)) {
            case 0:
                return random.nextInt(30);
            case 1:
                return edge();
            default:
                return random.nextInt(2001);
        }
    }

    private void look() {
        switch (random.nextInt(7)) {
            case 0:
                call("size");
                break;
            case 1:
                call("code", random.nextBoolean() ? random.nextInt(80) : edge(), nearly(random.nextInt(4)));
                break;
            case 2:
                call("begins", nearly(random.nextInt(26)));
                break;
            case 3:
                call("cell", nearly(random.nextInt(2)), nearly(random.nextInt(32)));
                break;
            case 4:
                call("access", nearly(random.nextInt(2)), nearly(random.nextInt(41)), nearly(random.nextInt(3)));
                break;
            default:
                call("result", nearly(random.nextInt(2)), nearly(random.nextInt(12)));
                break;
        }
    }

    /** Now and then another number, so that a call is refused by one of its numbers or by several. */
    private int nearly(int n) {
        return random.nextInt(12) == 0 ? edge() : n;
    }

    private int edge() {
        return EDGES[random.nextInt(EDGES.length)];
    }
}
