/** Counts the answers that are not as due, and ends the test with exit code 1 if there was one. */
final class Check {
    static final int A = 0;
    static final int X = 1;
    static final int Y = 2;
    static final int S = 3;
    static final int P = 4;
    static final int PC = 5;
    static final int HALTED = 6;

    static final int N = 128;
    static final int V = 64;
    static final int Z = 2;
    static final int C = 1;

    static final int NOTHING = code(31, 0);
    static final int HALT = code(23, 5);
    static final int INPUT = code(23, 6);
    static final int PUT_OUT = code(23, 7);
    static final int X_PLUS_1 = code(24, 6);

    private int wrong;

    static int code(int op, int m) {
        return op * 8 + m;
    }

    /** A new object with these bytes from address 0 on. */
    static ReplayDesk deskWith(int... bytes) {
        ReplayDesk desk = new ReplayDesk();
        write(desk, 0, bytes);
        return desk;
    }

    /** A new object with these bytes from an address on, and PC there; behind address 511 comes 0. */
    static ReplayDesk deskAt(int pc, int... bytes) {
        ReplayDesk desk = new ReplayDesk();
        write(desk, pc, bytes);
        desk.set(PC, pc);
        return desk;
    }

    static void write(ReplayDesk desk, int from, int... bytes) {
        for (int k = 0; k < bytes.length; k++) {
            desk.poke((from + k) & 511, bytes[k]);
        }
    }

    void due(String what, int got, int want) {
        if (got != want) {
            wrong++;
            System.out.println(what + " answered " + got + ", due is " + want);
        }
    }

    void due(String what, boolean got, boolean want) {
        due(what, got ? 1 : 0, want ? 1 : 0);
    }

    void dueRegisters(String what, ReplayDesk desk, int... want) {
        for (int k = 0; k < want.length; k++) {
            due(what + ": register(" + k + ")", desk.register(k), want[k]);
        }
    }

    void finish() {
        if (wrong != 0) {
            System.out.println(wrong + " answers are not as due");
            System.exit(1);
        }
    }
}
