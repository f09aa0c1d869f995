import java.util.Arrays;
import java.util.NoSuchElementException;

/** A desk that translates programs of the source into code of the target, and runs both on the same data. */
public final class TwoMachines {
    public static final int NONE = -1;

    private static final int SOURCE = 0;
    private static final int TARGET = 1;

    private static final int SOURCE_REGISTERS = 8;
    private static final int DATA_CELLS = 32;
    private static final int TARGET_CELLS = 64;
    private static final int REGISTERS_AT = 32;
    private static final int MAP_AT = 40;
    private static final int FIRST_KEPT_IN_CELLS = 4;
    private static final int LINK_REGISTER = 7;

    private static final int MOST_INSTRUCTIONS = 24;
    // The longest pair of places is TO with a LOAD or STORE as its slot: 12 + 6 for two places; behind all is END.
    private static final int MOST_CODE = 9 * MOST_INSTRUCTIONS + 1;
    private static final int MOST_DONE = 2000;
    private static final int MOST_KEPT = 40;

    // HALT to OTHER, JUMP and TO have the same numbers in both machines; 12 is LINK in one and ABOVE in the other.
    private static final int HALT = 0;
    private static final int STOP = 0;
    private static final int ADD = 1;
    private static final int SUB = 2;
    private static final int AND = 3;
    private static final int LESS = 4;
    private static final int ADDN = 5;
    private static final int HIGH = 6;
    private static final int LOAD = 7;
    private static final int STORE = 8;
    private static final int SAME = 9;
    private static final int OTHER = 10;
    private static final int JUMP = 11;
    private static final int LINK = 12;
    private static final int ABOVE = 12;
    private static final int TO = 13;
    private static final int LAST_NAMEABLE = 15;

    private static final int RUNNING = 0;
    private static final int HALTED = 1;
    private static final int FAULTED = 2;

    private static final int REASON_OPERATION = 1;
    private static final int REASON_SLOT = 2;
    private static final int REASON_LEADS_NOWHERE = 3;

    private final Listing program;
    private final Translation translation;
    private final int[] startRegisters;
    private final int[] startData;
    private final Machine source;
    private final Machine target;

    public TwoMachines() {
        program = new Listing(MOST_INSTRUCTIONS);
        translation = new Translation(program);
        startRegisters = new int[SOURCE_REGISTERS];
        startData = new int[DATA_CELLS];
        source = new SourceMachine(program);
        target = new TargetMachine(translation);
    }

    public int add(int operation, int a, int b, int c) throws IllegalArgumentException, IllegalStateException {
        boolean fits = isWithin(operation, 0, LAST_NAMEABLE)
            && isWithin(a, 0, SOURCE_REGISTERS - 1)
            && isWithin(b, 0, SOURCE_REGISTERS - 1)
            && isWithin(c, -128, 127);
        if (!fits) {
            throw new IllegalArgumentException();
        }
        if (program.count >= MOST_INSTRUCTIONS) {
            throw new IllegalStateException();
        }
        program.append(operation, a, b, c);
        translation.code.drop();
        return program.count - 1;
    }

    public int clear() {
        int had = program.count;
        program.drop();
        translation.code.drop();
        return had;
    }

    public int translate() {
        int refusal = translation.refusal();
        if (refusal != 0) {
            translation.code.drop();
        } else {
            translation.writeCode();
        }
        return refusal;
    }

    public int size() {
        return translation.code.count;
    }

    public int code(int place, int what) throws IllegalArgumentException, NoSuchElementException {
        if (!isWithin(what, 0, Listing.FIELDS - 1)) {
            throw new IllegalArgumentException();
        }
        if (!translation.code.has(place)) {
            throw new NoSuchElementException();
        }
        return translation.code.field(place, what);
    }

    public int begins(int place) throws NoSuchElementException {
        if (!translation.isThere() || !isWithin(place, 0, program.count)) {
            throw new NoSuchElementException();
        }
        return translation.beginnings[place];
    }

    public void register(int r, int v) throws IllegalArgumentException {
        if (!isWithin(r, 1, SOURCE_REGISTERS - 1) || !isNumber(v)) {
            throw new IllegalArgumentException();
        }
        startRegisters[r] = v;
    }

    public void data(int a, int v) throws IllegalArgumentException {
        if (!isDataCell(a) || !isNumber(v)) {
            throw new IllegalArgumentException();
        }
        startData[a] = v;
    }

    public int run(int machine, int limit) throws IllegalArgumentException, IllegalStateException {
        if (!isMachine(machine) || !isWithin(limit, 0, MOST_DONE)) {
            throw new IllegalArgumentException();
        }
        if (machine == TARGET && !translation.isThere()) {
            throw new IllegalStateException();
        }
        Machine chosen = machineOf(machine);
        chosen.begin(startRegisters, startData);
        chosen.work(limit);
        return chosen.done;
    }

    public int result(int machine, int what) {
        if (!isMachine(machine)) {
            return NONE;
        }
        Machine chosen = machineOf(machine);
        if (isWithin(what, 0, SOURCE_REGISTERS - 1)) {
            return chosen.sourceRegister(what);
        }
        switch (what) {
            case 8:
                return chosen.ended;
            case 9:
                return chosen.here;
            case 10:
                return chosen.done;
            case 11:
                return chosen.kept;
            default:
                return NONE;
        }
    }

    public int cell(int machine, int a) throws IllegalArgumentException {
        if (!isMachine(machine) || !isDataCell(a)) {
            throw new IllegalArgumentException();
        }
        return machineOf(machine).cells[a];
    }

    public int access(int machine, int k, int what) throws IllegalArgumentException, NoSuchElementException {
        if (!isMachine(machine) || !isWithin(what, 0, Machine.ACCESS_PARTS - 1)) {
            throw new IllegalArgumentException();
        }
        Machine chosen = machineOf(machine);
        if (!isWithin(k, 0, chosen.kept - 1)) {
            throw new NoSuchElementException();
        }
        return chosen.accesses[k * Machine.ACCESS_PARTS + what];
    }

    private Machine machineOf(int machine) {
        return machine == SOURCE ? source : target;
    }

    private static boolean isMachine(int machine) {
        return machine == SOURCE || machine == TARGET;
    }

    private static boolean isDataCell(int a) {
        return isWithin(a, 0, DATA_CELLS - 1);
    }

    private static boolean isNumber(int v) {
        return isWithin(v, -32768, 32767);
    }

    private static boolean isWithin(int value, int least, int most) {
        return value >= least && value <= most;
    }

    /** Instructions at places 0, 1, ..: those of the source as well as those of the target. */
    private static final class Listing {
        static final int FIELDS = 4;

        private final int[] fields;
        int count;

        Listing(int most) {
            fields = new int[FIELDS * most];
            count = 0;
        }

        boolean has(int place) {
            return place >= 0 && place < count;
        }

        int field(int place, int what) {
            return fields[FIELDS * place + what];
        }

        int operation(int place) {
            return field(place, 0);
        }

        int first(int place) {
            return field(place, 1);
        }

        int second(int place) {
            return field(place, 2);
        }

        int third(int place) {
            return field(place, 3);
        }

        void append(int operation, int first, int second, int third) {
            int at = FIELDS * count;
            if (at + FIELDS > fields.length) {
                return;
            }
            fields[at] = operation;
            fields[at + 1] = first;
            fields[at + 2] = second;
            fields[at + 3] = third;
            count++;
        }

        void drop() {
            count = 0;
        }
    }

    /** The code that stands for a program; without code it is empty, for with any it has at least its END. */
    private static final class Translation {
        private static final int HELPER = 4;
        private static final int SECOND_HELPER = 5;
        // What a branch decides by must outlast its slot, and no slot uses this helper.
        private static final int SLOT_PROOF_HELPER = 6;

        final Listing program;
        final Listing code;
        final int[] beginnings;

        Translation(Listing program) {
            this.program = program;
            code = new Listing(MOST_CODE);
            beginnings = new int[MOST_INSTRUCTIONS + 1];
        }

        boolean isThere() {
            return code.count > 0;
        }

        int refusal() {
            for (int place = 0; place < program.count; place++) {
                int reason = reasonAgainst(place);
                if (reason != 0) {
                    return reason + 16 * place;
                }
            }
            return 0;
        }

        private int reasonAgainst(int place) {
            int operation = program.operation(place);
            if (operation > TO) {
                return REASON_OPERATION;
            }
            if (operation < SAME) {
                return 0;
            }
            if (!canBeSlot(place + 1)) {
                return REASON_SLOT;
            }
            if (operation != TO && !program.has(leadOf(place))) {
                return REASON_LEADS_NOWHERE;
            }
            return 0;
        }

        private boolean canBeSlot(int place) {
            if (!program.has(place)) {
                return false;
            }
            int operation = program.operation(place);
            boolean isBranch = operation >= SAME && operation <= TO;
            return operation != HALT && !isBranch;
        }

        private int leadOf(int place) {
            int c = program.third(place);
            return program.operation(place) <= OTHER ? place + 1 + c : c;
        }

        /** Writes twice: only behind the first time it is known where the places ahead begin. */
        void writeCode() {
            for (int time = 0; time < 2; time++) {
                code.drop();
                for (int place = 0; place < program.count; place++) {
                    beginnings[place] = code.count;
                    writePlace(place);
                }
                beginnings[program.count] = code.count;
                code.append(STOP, 0, 0, 1);
            }
        }

        private void writePlace(int place) {
            switch (program.operation(place)) {
                case HALT:
                    code.append(STOP, 0, 0, 0);
                    break;
                case SAME:
                case OTHER:
                    writeFork(place);
                    break;
                case JUMP:
                    writeSimple(place + 1);
                    writeJump(leadOf(place));
                    break;
                case LINK:
                    writeInto(LINK_REGISTER, ADDN, 0, place + 2);
                    writeSimple(place + 1);
                    writeJump(leadOf(place));
                    break;
                case TO:
                    writeTo(place);
                    break;
                default:
                    writeSimple(place);
                    break;
            }
        }

        private void writeFork(int place) {
            int left = readInto(HELPER, program.first(place));
            int right = readInto(SECOND_HELPER, program.second(place));
            code.append(SUB, SLOT_PROOF_HELPER, left, right);
            writeSimple(place + 1);
            code.append(program.operation(place), SLOT_PROOF_HELPER, 0, beginningOf(leadOf(place)));
            writeJump(place + 2);
        }

        private void writeTo(int place) {
            int where = readInto(HELPER, program.first(place));
            code.append(ADDN, SLOT_PROOF_HELPER, where, 0);
            writeSimple(place + 1);
            code.append(ADDN, HELPER, 0, program.count);
            code.append(ABOVE, SLOT_PROOF_HELPER, HELPER, end());
            code.append(LOAD, HELPER, SLOT_PROOF_HELPER, MAP_AT);
            code.append(TO, HELPER, 0, 0);
        }

        private void writeJump(int place) {
            code.append(JUMP, 0, 0, beginningOf(place));
        }

        /** Of its own beside writePlace, for a slot is written so too, and never is HALT or a branch. */
        private void writeSimple(int place) {
            int operation = program.operation(place);
            int a = program.first(place);
            int b = program.second(place);
            int c = program.third(place);
            if (operation == HIGH) {
                writeInto(a, HIGH, 0, c);
                return;
            }
            int left = readInto(HELPER, b);
            if (operation <= LESS) {
                int right = readInto(SECOND_HELPER, Math.floorMod(c, SOURCE_REGISTERS));
                writeInto(a, operation, left, right);
            } else if (operation == ADDN) {
                writeInto(a, ADDN, left, c);
            } else {
                code.append(ADDN, SECOND_HELPER, left, c);
                code.append(ADDN, HELPER, 0, DATA_CELLS);
                code.append(ABOVE, SECOND_HELPER, HELPER, end());
                if (operation == LOAD) {
                    writeInto(a, LOAD, SECOND_HELPER, 0);
                } else {
                    int stored = readInto(HELPER, a);
                    code.append(STORE, stored, SECOND_HELPER, 0);
                }
            }
        }

        private int readInto(int helper, int r) {
            if (r < FIRST_KEPT_IN_CELLS) {
                return r;
            }
            code.append(LOAD, helper, 0, REGISTERS_AT + r);
            return helper;
        }

        /** Register 0 gets nothing, yet the operation is not left out: a helper takes what it makes. */
        private void writeInto(int r, int operation, int second, int third) {
            boolean isItself = r > 0 && r < FIRST_KEPT_IN_CELLS;
            code.append(operation, isItself ? r : HELPER, second, third);
            if (r >= FIRST_KEPT_IN_CELLS) {
                code.append(STORE, HELPER, 0, REGISTERS_AT + r);
            }
        }

        private int beginningOf(int place) {
            return program.has(place) ? beginnings[place] : end();
        }

        private int end() {
            return beginnings[program.count];
        }
    }

    /** What both machines have, the operations 1 to 8 among it, and what their latest run left. */
    private abstract static class Machine {
        static final int ACCESS_PARTS = 3;

        final Listing listing;
        final int[] registers;
        final int[] cells;
        final int[] accesses;
        int kept;
        int here;
        int done;
        int ended;

        Machine(Listing listing, int cellCount) {
            this.listing = listing;
            registers = new int[SOURCE_REGISTERS];
            cells = new int[cellCount];
            accesses = new int[ACCESS_PARTS * MOST_KEPT];
        }

        abstract void begin(int[] startRegisters, int[] startData);

        abstract int howItStops();

        /** Goes on behind operation 1 to 8, or does the branch. */
        abstract void goOn(int operation);

        abstract int sourceRegister(int r);

        void beginWithData(int[] startData) {
            Arrays.fill(registers, 0);
            Arrays.fill(cells, 0);
            System.arraycopy(startData, 0, cells, 0, DATA_CELLS);
            kept = 0;
            here = 0;
            done = 0;
            ended = RUNNING;
        }

        void work(int limit) {
            for (int turn = 0; turn < limit && ended == RUNNING; turn++) {
                if (listing.has(here)) {
                    step(listing.operation(here));
                } else {
                    ended = FAULTED;
                }
            }
        }

        private void step(int operation) {
            boolean isSimple = operation >= ADD && operation < SAME;
            if (operation > TO || (isSimple && !doSimple(operation))) {
                ended = FAULTED;
                return;
            }
            if (operation == STOP) {
                ended = howItStops();
            } else {
                goOn(operation);
            }
            done++;
        }

        /** Answers whether it could be done: a cell that there is not is no exception here, but the run's fault. */
        private boolean doSimple(int operation) {
            int first = listing.first(here);
            int left = registers[listing.second(here)];
            int third = listing.third(here);
            if (operation >= LOAD) {
                return reachCell(operation, first, wrapped(left + third));
            }
            int right = operation <= LESS ? registers[Math.floorMod(third, SOURCE_REGISTERS)] : third;
            setRegister(first, calculated(operation, left, right));
            return true;
        }

        private boolean reachCell(int operation, int r, int a) {
            if (a < 0 || a >= cells.length) {
                return false;
            }
            boolean isWritten = operation == STORE;
            if (isWritten) {
                cells[a] = registers[r];
            } else {
                setRegister(r, cells[a]);
            }
            if (a < DATA_CELLS) {
                keepAccess(a, isWritten ? 1 : 0, cells[a]);
            }
            return true;
        }

        private void keepAccess(int a, int written, int number) {
            if (kept >= MOST_KEPT) {
                return;
            }
            int at = ACCESS_PARTS * kept;
            accesses[at] = a;
            accesses[at + 1] = written;
            accesses[at + 2] = number;
            kept++;
        }

        void setRegister(int r, int v) {
            if (r != 0) {
                registers[r] = v;
            }
        }

        private static int calculated(int operation, int left, int right) {
            switch (operation) {
                case SUB:
                    return wrapped(left - right);
                case AND:
                    return left & right;
                case LESS:
                    return left < right ? 1 : 0;
                case HIGH:
                    return wrapped(256 * right);
                default:
                    return wrapped(left + right);
            }
        }

        private static int wrapped(int value) {
            return (short) value;
        }
    }

    private static final class SourceMachine extends Machine {
        private int next;

        SourceMachine(Listing program) {
            super(program, DATA_CELLS);
        }

        @Override
        void begin(int[] startRegisters, int[] startData) {
            beginWithData(startData);
            System.arraycopy(startRegisters, 0, registers, 0, SOURCE_REGISTERS);
            next = 1;
        }

        @Override
        int howItStops() {
            return HALTED;
        }

        @Override
        void goOn(int operation) {
            int behindNext = operation < SAME ? next + 1 : branch(operation);
            here = next;
            next = behindNext;
        }

        private int branch(int operation) {
            int a = registers[listing.first(here)];
            int b = registers[listing.second(here)];
            int c = listing.third(here);
            switch (operation) {
                case SAME:
                    return a == b ? here + 1 + c : next + 1;
                case OTHER:
                    return a != b ? here + 1 + c : next + 1;
                case LINK:
                    setRegister(LINK_REGISTER, here + 2);
                    return c;
                case TO:
                    return a;
                default:
                    return c;
            }
        }

        @Override
        int sourceRegister(int r) {
            return registers[r];
        }
    }

    private static final class TargetMachine extends Machine {
        private final Translation translation;

        TargetMachine(Translation translation) {
            super(translation.code, TARGET_CELLS);
            this.translation = translation;
        }

        @Override
        void begin(int[] startRegisters, int[] startData) {
            beginWithData(startData);
            for (int r = 1; r < SOURCE_REGISTERS; r++) {
                if (r < FIRST_KEPT_IN_CELLS) {
                    registers[r] = startRegisters[r];
                } else {
                    cells[REGISTERS_AT + r] = startRegisters[r];
                }
            }
            System.arraycopy(translation.beginnings, 0, cells, MAP_AT, translation.program.count);
        }

        @Override
        int howItStops() {
            return listing.third(here) == 0 ? HALTED : FAULTED;
        }

        @Override
        void goOn(int operation) {
            here = operation < SAME ? here + 1 : branch(operation);
        }

        private int branch(int operation) {
            int d = registers[listing.first(here)];
            int s = registers[listing.second(here)];
            int t = listing.third(here);
            switch (operation) {
                case SAME:
                    return d == s ? t : here + 1;
                case OTHER:
                    return d != s ? t : here + 1;
                case ABOVE:
                    return unsigned(d) >= unsigned(s) ? t : here + 1;
                case TO:
                    return d;
                default:
                    return t;
            }
        }

        private static int unsigned(int number) {
            return number & 0xFFFF;
        }

        @Override
        int sourceRegister(int r) {
            return r < FIRST_KEPT_IN_CELLS ? registers[r] : cells[REGISTERS_AT + r];
        }
    }
}
