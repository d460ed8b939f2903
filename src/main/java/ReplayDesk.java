/** A small eight-bit machine whose runs can be gone through in both directions. */
public final class ReplayDesk {
    private static final int CELLS = 512;
    private static final int ADDRESS_BITS = 511;
    private static final int BYTE_BITS = 255;
    private static final int PAGE = 256;

    private static final int MOST_STEPS = 300;
    private static final int MOST_INPUTS = 40;
    private static final int MOST_MARKS = 4;
    private static final int SHOWN_OUTPUTS = 8;
    private static final int WRITES_A_STEP = 2;
    private static final int NONE = -1;

    private static final int FLAG_N = 128;
    private static final int FLAG_V = 64;
    private static final int FLAG_Z = 2;
    private static final int FLAG_C = 1;
    private static final int FLAGS = 195;

    // All that a moment is, but for the cells, stands in one row of numbers, so that
    // a moment is kept and restored by one copy. The first seven are numbered as in set().
    private static final int A = 0;
    private static final int X = 1;
    private static final int Y = 2;
    private static final int S = 3;
    private static final int P = 4;
    private static final int PC = 5;
    private static final int HALTED = 6;
    private static final int INPUTS_TAKEN = 7;
    private static final int OUTPUTS_HELD = 8;
    private static final int ROW_LENGTH = 9;

    private static final int[] REGISTER_BITS = {255, 255, 255, 255, FLAGS, 511};
    private static final int[] LENGTH_BY_MODE = {2, 2, 2, 3, 3, 3, 2, 1};
    private static final int[] BRANCH_FLAGS = {FLAG_N, FLAG_V, FLAG_C, FLAG_Z};

    private final Machine machine;
    private final History history;
    private final Marks stops;
    private final Marks watches;

    public ReplayDesk() {
        machine = new Machine();
        history = new History();
        stops = new Marks();
        watches = new Marks();
        history.begin(machine);
    }

    public boolean poke(int a, int v) {
        if (!isAddress(a)) {
            return false;
        }
        machine.cells[a] = v & BYTE_BITS;
        beginAnew();
        return true;
    }

    public boolean set(int k, int v) {
        if (!isRegister(k)) {
            return false;
        }
        if (k == HALTED) {
            machine.row[HALTED] = v != 0 ? 1 : 0;
        } else {
            machine.row[k] = v & REGISTER_BITS[k];
        }
        beginAnew();
        return true;
    }

    public boolean feed(int v) {
        if (machine.inputsWaiting() >= MOST_INPUTS) {
            return false;
        }
        machine.addInput(v & BYTE_BITS);
        beginAnew();
        return true;
    }

    public int run(int n) {
        if (n < 0 || n > MOST_STEPS) {
            return 0;
        }
        for (int made = 0; made < n; made++) {
            boolean stopped = made > 0 && stops.has(machine.row[PC]);
            if (stopped || !stepOn()) {
                return made;
            }
        }
        return n;
    }

    public boolean go(int t) {
        if (t < 0 || t > history.newest) {
            return false;
        }
        history.moveTo(t, machine);
        return true;
    }

    public int seek() {
        for (int t = history.now - 1; t >= 0; t--) {
            if (isMet(t)) {
                history.moveTo(t, machine);
                return t;
            }
        }
        return NONE;
    }

    public int time() {
        return history.now;
    }

    public int last() {
        return history.newest;
    }

    public boolean stop(int a, boolean on) {
        return stops.change(a, on);
    }

    public boolean watch(int a, boolean on) {
        return watches.change(a, on);
    }

    public int cell(int a) {
        return isAddress(a) ? machine.cells[a] : NONE;
    }

    public int register(int k) {
        return isRegister(k) ? machine.row[k] : NONE;
    }

    public int waiting() {
        return machine.inputsWaiting();
    }

    public int puts() {
        return machine.outputsDropped + machine.row[OUTPUTS_HELD];
    }

    public int output(int k) {
        return k < 0 || k >= SHOWN_OUTPUTS ? NONE : machine.outputBehind(k);
    }

    public int wrote(int t) {
        return history.lastPlaceWritten(t);
    }

    private static boolean isAddress(int a) {
        return a >= 0 && a < CELLS;
    }

    private static boolean isRegister(int k) {
        return k >= A && k <= HALTED;
    }

    private void beginAnew() {
        machine.dropOldOutputs();
        history.begin(machine);
    }

    private boolean stepOn() {
        if (history.now < history.newest) {
            history.moveTo(history.now + 1, machine);
            return true;
        }
        if (machine.row[HALTED] != 0 || history.newest >= MOST_STEPS) {
            return false;
        }
        machine.makeStep();
        history.append(machine);
        return true;
    }

    private boolean isMet(int t) {
        return stops.has(history.counterAt(t))
            || watches.has(history.placeWritten(t, 0))
            || watches.has(history.placeWritten(t, 1));
    }

    /** The stops, or the watched addresses. */
    private static final class Marks {
        private final boolean[] marked = new boolean[CELLS];
        private int count;

        boolean has(int a) {
            return isAddress(a) && marked[a];
        }

        boolean change(int a, boolean on) {
            if (!isAddress(a) || marked[a] == on || (on && count >= MOST_MARKS)) {
                return false;
            }
            marked[a] = on;
            count += on ? 1 : -1;
            return true;
        }
    }

    /** The moments since the history began, and which of them is the present. */
    private static final class History {
        private final int[] moments = new int[(MOST_STEPS + 1) * ROW_LENGTH];
        private final int[] places = new int[MOST_STEPS * WRITES_A_STEP];
        // The byte that the written cell has on the other side of the step: the old one
        // while the step stands, the new one while it is taken back.
        private final int[] otherBytes = new int[MOST_STEPS * WRITES_A_STEP];
        private int now;
        private int newest;

        void begin(Machine machine) {
            now = 0;
            newest = 0;
            keepPresent(machine);
        }

        void append(Machine machine) {
            if (newest >= MOST_STEPS) {
                return;
            }
            for (int k = 0; k < WRITES_A_STEP; k++) {
                places[newest * WRITES_A_STEP + k] = machine.places[k];
                otherBytes[newest * WRITES_A_STEP + k] = machine.oldBytes[k];
            }
            newest++;
            now = newest;
            keepPresent(machine);
        }

        void moveTo(int t, Machine machine) {
            if (t < 0 || t > newest) {
                return;
            }
            for (int k = now * WRITES_A_STEP; k < t * WRITES_A_STEP; k++) {
                swapByte(k, machine.cells);
            }
            for (int k = now * WRITES_A_STEP - 1; k >= t * WRITES_A_STEP; k--) {
                swapByte(k, machine.cells);
            }
            now = t;
            System.arraycopy(moments, t * ROW_LENGTH, machine.row, 0, ROW_LENGTH);
        }

        int counterAt(int t) {
            return t < 0 || t > newest ? NONE : moments[t * ROW_LENGTH + PC];
        }

        int placeWritten(int t, int k) {
            return t < 0 || t >= newest ? NONE : places[t * WRITES_A_STEP + k];
        }

        int lastPlaceWritten(int t) {
            int second = placeWritten(t, 1);
            return second != NONE ? second : placeWritten(t, 0);
        }

        private void keepPresent(Machine machine) {
            System.arraycopy(machine.row, 0, moments, now * ROW_LENGTH, ROW_LENGTH);
        }

        private void swapByte(int k, int[] cells) {
            int place = places[k];
            if (isAddress(place)) {
                int other = otherBytes[k];
                otherBytes[k] = cells[place];
                cells[place] = other;
            }
        }
    }

    /** The machine as it is at the present moment, and what its latest step wrote. */
    private static final class Machine {
        private static final int IN_A = -1;

        private final int[] cells = new int[CELLS];
        private final int[] row = new int[ROW_LENGTH];
        private final int[] inputs = new int[MOST_INPUTS];
        private int inputsFed;
        // Those shown when the history began, and one for each step of it.
        private final int[] outputs = new int[SHOWN_OUTPUTS + MOST_STEPS];
        private int outputsDropped;
        private final int[] places = new int[WRITES_A_STEP];
        private final int[] oldBytes = new int[WRITES_A_STEP];
        private int writes;

        Machine() {
            row[S] = BYTE_BITS;
        }

        int inputsWaiting() {
            return inputsFed - row[INPUTS_TAKEN];
        }

        void addInput(int value) {
            int left = inputsWaiting();
            for (int k = 0; k < left; k++) {
                inputs[k] = inputs[row[INPUTS_TAKEN] + k];
            }
            row[INPUTS_TAKEN] = 0;
            inputsFed = left;
            if (inputsFed < MOST_INPUTS) {
                inputs[inputsFed] = value;
                inputsFed++;
            }
        }

        int outputBehind(int k) {
            return k >= row[OUTPUTS_HELD] ? NONE : outputs[row[OUTPUTS_HELD] - 1 - k];
        }

        // Makes room for the outputs of a new history.
        void dropOldOutputs() {
            int surplus = row[OUTPUTS_HELD] - SHOWN_OUTPUTS;
            if (surplus <= 0) {
                return;
            }
            for (int k = 0; k < SHOWN_OUTPUTS; k++) {
                outputs[k] = outputs[surplus + k];
            }
            outputsDropped += surplus;
            row[OUTPUTS_HELD] = SHOWN_OUTPUTS;
        }

        void makeStep() {
            forgetWrites();
            int start = row[PC];
            int op = cells[start] >> 3;
            int mode = cells[start] & 7;
            // All of the instruction is read before anything is written, as a push may
            // fall on the instruction itself.
            int operand = cellAt(start + 1);
            int place = placeOf(mode, start);
            row[PC] = (start + lengthOf(op, mode)) & ADDRESS_BITS;
            if (op <= 20) {
                workOnPlace(op, place);
            } else if (op <= 22) {
                jump(op == 22, mode, place);
            } else if (op == 23) {
                useStackOrPort(mode);
            } else if (op == 24) {
                moveRegister(mode);
            } else if (op == 25) {
                changeYOrFlag(mode);
            } else if (op == 26) {
                branch(mode, operand);
            }
        }

        private static int lengthOf(int op, int mode) {
            if (op <= 22) {
                return LENGTH_BY_MODE[mode];
            }
            return op == 26 ? 2 : 1;
        }

        private int placeOf(int mode, int start) {
            int operand = cellAt(start + 1);
            int wide = operand + PAGE * cellAt(start + 2);
            switch (mode) {
                case 0:
                    return (start + 1) & ADDRESS_BITS;
                case 1:
                    return operand;
                case 2:
                    return (operand + row[X]) & BYTE_BITS;
                case 3:
                    return wide & ADDRESS_BITS;
                case 4:
                    return (wide + row[X]) & ADDRESS_BITS;
                case 5:
                    return (wide + row[Y]) & ADDRESS_BITS;
                case 6:
                    return (pointerAt(operand) + row[Y]) & ADDRESS_BITS;
                default:
                    return IN_A;
            }
        }

        private int pointerAt(int low) {
            return cellAt(low) + PAGE * cellAt((low + 1) & BYTE_BITS);
        }

        private void workOnPlace(int op, int place) {
            int t = place == IN_A ? row[A] : cellAt(place);
            if (op <= 2) {
                load(op, t);
            } else if (op <= 5) {
                writePlace(place, row[op - 3]);
            } else if (op == 6) {
                addToA(t);
            } else if (op == 7) {
                addToA(BYTE_BITS - t);
            } else if (op <= 10) {
                load(A, bitsWithA(op, t));
            } else if (op <= 13) {
                compare(row[op - 11], t);
            } else if (op == 14) {
                testBits(t);
            } else {
                alterPlace(op, place, t);
            }
        }

        private int bitsWithA(int op, int t) {
            switch (op) {
                case 8:
                    return row[A] & t;
                case 9:
                    return row[A] | t;
                default:
                    return row[A] ^ t;
            }
        }

        private void addToA(int term) {
            int old = row[A];
            int sum = old + term + (row[P] & FLAG_C);
            boolean sameSigns = ((old ^ term) & 128) == 0;
            load(A, sum);
            putFlag(FLAG_C, sum > BYTE_BITS);
            putFlag(FLAG_V, sameSigns && ((old ^ row[A]) & 128) != 0);
        }

        private void compare(int value, int t) {
            noteResult((value - t) & BYTE_BITS);
            putFlag(FLAG_C, value >= t);
        }

        private void testBits(int t) {
            putFlag(FLAG_N, (t & 128) != 0);
            putFlag(FLAG_V, (t & 64) != 0);
            putFlag(FLAG_Z, (row[A] & t) == 0);
        }

        private void alterPlace(int op, int place, int t) {
            int result = alteredByte(op, t) & BYTE_BITS;
            if (op == 17 || op == 19) {
                putFlag(FLAG_C, (t & 128) != 0);
            } else if (op == 18 || op == 20) {
                putFlag(FLAG_C, (t & 1) != 0);
            }
            noteResult(result);
            writePlace(place, result);
        }

        private int alteredByte(int op, int t) {
            int carry = row[P] & FLAG_C;
            switch (op) {
                case 15:
                    return t + 1;
                case 16:
                    return t - 1;
                case 17:
                    return t << 1;
                case 18:
                    return t >> 1;
                case 19:
                    return (t << 1) + carry;
                default:
                    return (t >> 1) + 128 * carry;
            }
        }

        private void jump(boolean andReturn, int mode, int place) {
            if (mode == 0 || place == IN_A) {
                return;
            }
            if (andReturn) {
                push(row[PC] / PAGE);
                push(row[PC] & BYTE_BITS);
            }
            row[PC] = place;
        }

        private void useStackOrPort(int mode) {
            switch (mode) {
                case 0:
                    int low = takeByte();
                    row[PC] = (low + PAGE * takeByte()) & ADDRESS_BITS;
                    break;
                case 1:
                    push(row[A]);
                    break;
                case 2:
                    load(A, takeByte());
                    break;
                case 3:
                    push(row[P]);
                    break;
                case 4:
                    row[P] = takeByte() & FLAGS;
                    break;
                case 5:
                    row[HALTED] = 1;
                    break;
                case 6:
                    takeInput();
                    break;
                default:
                    putOut();
                    break;
            }
        }

        private void takeInput() {
            boolean waits = inputsWaiting() > 0;
            int taken = row[INPUTS_TAKEN];
            load(A, waits ? inputs[taken] : 0);
            putFlag(FLAG_C, !waits);
            row[INPUTS_TAKEN] = waits ? taken + 1 : taken;
        }

        private void putOut() {
            if (row[OUTPUTS_HELD] < SHOWN_OUTPUTS + MOST_STEPS) {
                outputs[row[OUTPUTS_HELD]] = row[A];
                row[OUTPUTS_HELD]++;
            }
        }

        private void moveRegister(int mode) {
            switch (mode) {
                case 0:
                    load(X, row[A]);
                    break;
                case 1:
                    load(A, row[X]);
                    break;
                case 2:
                    load(Y, row[A]);
                    break;
                case 3:
                    load(A, row[Y]);
                    break;
                case 4:
                    load(X, row[S]);
                    break;
                case 5:
                    row[S] = row[X];
                    break;
                case 6:
                    load(X, row[X] + 1);
                    break;
                default:
                    load(X, row[X] - 1);
                    break;
            }
        }

        private void changeYOrFlag(int mode) {
            switch (mode) {
                case 0:
                    load(Y, row[Y] + 1);
                    break;
                case 1:
                    load(Y, row[Y] - 1);
                    break;
                case 2:
                    putFlag(FLAG_C, false);
                    break;
                case 3:
                    putFlag(FLAG_C, true);
                    break;
                case 4:
                    putFlag(FLAG_V, false);
                    break;
                default:
                    break;
            }
        }

        private void branch(int mode, int operand) {
            boolean wanted = (mode & 1) != 0;
            boolean isSet = (row[P] & BRANCH_FLAGS[mode >> 1]) != 0;
            if (isSet == wanted) {
                int distance = operand < 128 ? operand : operand - PAGE;
                row[PC] = (row[PC] + distance) & ADDRESS_BITS;
            }
        }

        private void load(int register, int value) {
            row[register] = value & BYTE_BITS;
            noteResult(row[register]);
        }

        private void noteResult(int result) {
            int others = row[P] & ~(FLAG_N | FLAG_Z);
            row[P] = others | (result & FLAG_N) | (result == 0 ? FLAG_Z : 0);
        }

        private void putFlag(int flag, boolean on) {
            row[P] = on ? row[P] | flag : row[P] & ~flag;
        }

        private void push(int value) {
            writeCell(PAGE + row[S], value);
            row[S] = (row[S] - 1) & BYTE_BITS;
        }

        private int takeByte() {
            row[S] = (row[S] + 1) & BYTE_BITS;
            return cellAt(PAGE + row[S]);
        }

        private int cellAt(int address) {
            return cells[address & ADDRESS_BITS];
        }

        private void writePlace(int place, int value) {
            if (place == IN_A) {
                row[A] = value;
            } else {
                writeCell(place, value);
            }
        }

        private void writeCell(int address, int value) {
            int place = address & ADDRESS_BITS;
            if (writes < WRITES_A_STEP) {
                places[writes] = place;
                oldBytes[writes] = cells[place];
                writes++;
            }
            cells[place] = value;
        }

        private void forgetWrites() {
            writes = 0;
            for (int k = 0; k < WRITES_A_STEP; k++) {
                places[k] = NONE;
            }
        }
    }
}
