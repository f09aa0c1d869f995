import java.util.ArrayList;
import java.util.List;

/**
 * The document once more, written apart from the program and in another way: lists, and places in the code that are
 * put in when all is written. Its answers are texts, "throws .." for an exception.
 */
final class Model {
    private static final String ARGUMENT = "throws IllegalArgumentException";
    private static final String STATE = "throws IllegalStateException";
    private static final String ELEMENT = "throws NoSuchElementException";

    private final List<int[]> program = new ArrayList<>();
    private final int[] startRegisters = new int[8];
    private final int[] startData = new int[32];
    private final Run[] latest = {new Run(), new Run()};
    private Code code = null;

    String answer(String call, int[] n) {
        switch (call) {
            case "add":
                return add(n);
            case "clear":
                int had = program.size();
                program.clear();
                code = null;
                return "" + had;
            case "translate":
                int refusal = refusal();
                code = refusal == 0 ? new Code(program) : null;
                return "" + refusal;
            case "size":
                return "" + (code == null ? 0 : code.lines.size());
            case "code":
                return n[1] < 0 || n[1] > 3 ? ARGUMENT
                    : code == null || n[0] < 0 || n[0] >= code.lines.size() ? ELEMENT : "" + code.lines.get(n[0])[n[1]];
            case "begins":
                return code == null || n[0] < 0 || n[0] > program.size() ? ELEMENT : "" + code.begins.get(n[0]);
            case "register":
                return start(startRegisters, 1, n);
            case "data":
                return start(startData, 0, n);
            case "run":
                return run(n[0], n[1]);
            case "result":
                return n[0] < 0 || n[0] > 1 ? "-1" : "" + latest[n[0]].result(n[1]);
            case "cell":
                return n[0] < 0 || n[0] > 1 || n[1] < 0 || n[1] > 31 ? ARGUMENT : "" + latest[n[0]].cells[n[1]];
            default:
                return access(n[0], n[1], n[2]);
        }
    }

    private String add(int[] n) {
        boolean isInstruction = n[0] >= 0 && n[0] <= 15 && n[1] >= 0 && n[1] <= 7 && n[2] >= 0 && n[2] <= 7
            && n[3] >= -128 && n[3] <= 127;
        if (!isInstruction) {
            return ARGUMENT;
        }
        if (program.size() == 24) {
            return STATE;
        }
        program.add(n.clone());
        code = null;
        return "" + (program.size() - 1);
    }

    private static String start(int[] values, int first, int[] n) {
        if (n[0] < first || n[0] >= values.length || n[1] != (short) n[1]) {
            return ARGUMENT;
        }
        values[n[0]] = n[1];
        return "done";
    }

    private String access(int machine, int k, int what) {
        if (machine < 0 || machine > 1 || what < 0 || what > 2) {
            return ARGUMENT;
        }
        List<int[]> accesses = latest[machine].accesses;
        return k < 0 || k >= accesses.size() ? ELEMENT : "" + accesses.get(k)[what];
    }

    private int refusal() {
        for (int place = 0; place < program.size(); place++) {
            int[] i = program.get(place);
            boolean isBranch = i[0] >= 9 && i[0] <= 13;
            int slot = place + 1 < program.size() ? program.get(place + 1)[0] : 0;
            int lead = i[0] >= 11 ? i[3] : place + 1 + i[3];
            if (i[0] >= 14) {
                return 1 + 16 * place;
            }
            if (isBranch && (slot == 0 || (slot >= 9 && slot <= 13))) {
                return 2 + 16 * place;
            }
            if (isBranch && i[0] != 13 && (lead < 0 || lead >= program.size())) {
                return 3 + 16 * place;
            }
        }
        return 0;
    }

    private String run(int machine, int limit) {
        if (machine < 0 || machine > 1 || limit < 0 || limit > 2000) {
            return ARGUMENT;
        }
        if (machine == 1 && code == null) {
            return STATE;
        }
        Run run = new Run();
        latest[machine] = run;
        for (int r = 1; r < 8; r++) {
            run.registers[machine == 1 && r > 3 ? 10 + r : r] = startRegisters[r];
        }
        for (int a = 0; a < 32; a++) {
            run.cells[a] = startData[a];
        }
        run.isTarget = machine == 1;
        if (machine == 1) {
            run.target(code, limit);
        } else {
            run.source(program, limit);
        }
        return "" + run.done;
    }

    private static int round(long value) {
        return (int) (Math.floorMod(value + 32768, 65536L) - 32768);
    }

    /** Lines of the code; where a line's T is to be a place of the source, it is put in behind all. */
    private static final class Code {
        final List<int[]> lines = new ArrayList<>();
        final List<Integer> begins = new ArrayList<>();
        private final List<Integer> sourcePlaces = new ArrayList<>();
        private final List<int[]> program;

        Code(List<int[]> program) {
            this.program = program;
            for (int place = 0; place < program.size(); place++) {
                begins.add(lines.size());
                translate(place);
            }
            begins.add(lines.size());
            line(0, 0, 0, 1);
            for (int i = 0; i < lines.size(); i++) {
                if (sourcePlaces.get(i) >= 0) {
                    lines.get(i)[3] = begins.get(sourcePlaces.get(i));
                }
            }
        }

        private void line(int operation, int d, int s, int t) {
            lines.add(new int[] {operation, d, s, t});
            sourcePlaces.add(-1);
        }

        private void lineTo(int operation, int d, int s, int sourcePlace) {
            lines.add(new int[] {operation, d, s, 0});
            sourcePlaces.add(sourcePlace);
        }

        private int read(int r, int helper) {
            if (r >= 4) {
                line(7, helper, 0, 32 + r);
            }
            return r >= 4 ? helper : r;
        }

        private void write(int r, int operation, int s, int t) {
            line(operation, r >= 1 && r <= 3 ? r : 4, s, t);
            if (r >= 4) {
                line(8, 4, 0, 32 + r);
            }
        }

        private void translate(int place) {
            int[] i = program.get(place);
            int a = i[1];
            int b = i[2];
            int c = i[3];
            switch (i[0]) {
                case 0:
                    line(0, 0, 0, 0);
                    break;
                case 1: case 2: case 3: case 4:
                    int left = read(b, 4);
                    write(a, i[0], left, read(c & 7, 5));
                    break;
                case 5:
                    write(a, 5, read(b, 4), c);
                    break;
                case 6:
                    write(a, 6, 0, c);
                    break;
                case 7: case 8:
                    line(5, 5, read(b, 4), c);
                    line(5, 4, 0, 32);
                    lineTo(12, 5, 4, program.size());
                    if (i[0] == 7) {
                        write(a, 7, 5, 0);
                    } else {
                        line(8, read(a, 4), 5, 0);
                    }
                    break;
                case 9: case 10:
                    int one = read(a, 4);
                    line(2, 6, one, read(b, 5));
                    translate(place + 1);
                    lineTo(i[0], 6, 0, place + 1 + c);
                    lineTo(11, 0, 0, place + 2);
                    break;
                case 11:
                    translate(place + 1);
                    lineTo(11, 0, 0, c);
                    break;
                case 12:
                    write(7, 5, 0, place + 2);
                    translate(place + 1);
                    lineTo(11, 0, 0, c);
                    break;
                default:
                    line(5, 6, read(a, 4), 0);
                    translate(place + 1);
                    line(5, 4, 0, program.size());
                    lineTo(12, 6, 4, program.size());
                    line(7, 4, 6, 40);
                    line(13, 4, 0, 0);
                    break;
            }
        }
    }

    private static final class Run {
        /** The source's 0 .. 7 or the target's 0 .. 6; at 10 + r what the target keeps of the source's register r. */
        final int[] registers = new int[18];
        final int[] cells = new int[32];
        final List<int[]> accesses = new ArrayList<>();
        boolean isTarget = false;
        int place = 0;
        int done = 0;
        int end = 0;

        int result(int what) {
            switch (what) {
                case 8:
                    return end;
                case 9:
                    return place;
                case 10:
                    return done;
                case 11:
                    return accesses.size();
                default:
                    boolean isRegister = what >= 0 && what <= 7;
                    return isRegister ? registers[isTarget && what > 3 ? 10 + what : what] : -1;
            }
        }

        private void set(int r, int v) {
            registers[r] = r == 0 ? 0 : v;
        }

        private void keep(int a, int written) {
            if (accesses.size() < 40) {
                accesses.add(new int[] {a, written, cells[a]});
            }
        }

        private int calculate(int operation, int left, int right) {
            return operation == 1 || operation == 5 ? round((long) left + right)
                : operation == 2 ? round((long) left - right)
                : operation == 3 ? left & right
                : operation == 4 ? (left < right ? 1 : 0)
                : round(256L * right);
        }

        void source(List<int[]> program, int limit) {
            int next = 1;
            while (done < limit) {
                if (place < 0 || place >= program.size()) {
                    end = 2;
                    return;
                }
                int[] i = program.get(place);
                int a = registers[i[1]];
                int b = registers[i[2]];
                int address = round((long) b + i[3]);
                int lead = next + 1;
                if (i[0] > 13 || ((i[0] == 7 || i[0] == 8) && (address < 0 || address > 31))) {
                    end = 2;
                    return;
                }
                done++;
                if (i[0] == 0) {
                    end = 1;
                    return;
                } else if (i[0] <= 4) {
                    set(i[1], calculate(i[0], b, registers[Math.floorMod(i[3], 8)]));
                } else if (i[0] <= 6) {
                    set(i[1], calculate(i[0], b, i[3]));
                } else if (i[0] == 7) {
                    set(i[1], cells[address]);
                    keep(address, 0);
                } else if (i[0] == 8) {
                    cells[address] = a;
                    keep(address, 1);
                } else if (i[0] <= 10) {
                    lead = (a == b) == (i[0] == 9) ? place + 1 + i[3] : lead;
                } else if (i[0] <= 12) {
                    registers[7] = i[0] == 12 ? place + 2 : registers[7];
                    lead = i[3];
                } else {
                    lead = a;
                }
                place = next;
                next = lead;
            }
        }

        void target(Code code, int limit) {
            while (done < limit && end == 0) {
                int[] i = code.lines.get(place);
                int d = registers[i[1]];
                int s = registers[i[2]];
                int t = i[3];
                done++;
                int next = place + 1;
                switch (i[0]) {
                    case 0:
                        end = 1 + t;
                        next = place;
                        break;
                    case 1: case 2: case 3: case 4:
                        set(i[1], calculate(i[0], s, registers[t]));
                        break;
                    case 5: case 6:
                        set(i[1], calculate(i[0], s, t));
                        break;
                    case 7:
                        set(i[1], targetCell(s + t, code));
                        break;
                    case 8:
                        store(s + t, d);
                        break;
                    case 9:
                        next = d == s ? t : next;
                        break;
                    case 10:
                        next = d != s ? t : next;
                        break;
                    case 11:
                        next = t;
                        break;
                    case 12:
                        next = Math.floorMod(d, 65536) >= Math.floorMod(s, 65536) ? t : next;
                        break;
                    default:
                        next = d;
                        break;
                }
                place = next;
            }
        }

        private int targetCell(int a, Code code) {
            if (a >= 40) {
                return code.begins.get(a - 40);
            }
            if (a >= 32) {
                return registers[10 + a - 32];
            }
            keep(a, 0);
            return cells[a];
        }

        private void store(int a, int v) {
            if (a >= 32) {
                registers[10 + a - 32] = v;
            } else {
                cells[a] = v;
                keep(a, 1);
            }
        }
    }
}
