/** Each instruction by itself, with the values that the document tells. */
public final class InstructionsTest {
    private static final int N = Check.N;
    private static final int V = Check.V;
    private static final int Z = Check.Z;
    private static final int C = Check.C;
    private static final int ALL = N | V | Z | C;

    private final Check check = new Check();

    public static void main(String[] args) {
        InstructionsTest test = new InstructionsTest();
        test.places();
        test.placesAtTheEdges();
        test.loads();
        test.stores();
        test.sums();
        test.logic();
        test.comparisons();
        test.changes();
        test.jumps();
        test.calls();
        test.stack();
        test.ports();
        test.registersAndFlags();
        test.branches();
        test.nothings();
        test.flagsThatAreNotToldStay();
        test.check.finish();
    }

    /** Bytes at 0, and A, X, Y, S, P as told. */
    private static ReplayDesk desk(int[] bytes, int a, int x, int y, int s, int p) {
        ReplayDesk desk = Check.deskWith(bytes);
        int[] values = {a, x, y, s, p};
        for (int k = 0; k < values.length; k++) {
            desk.set(k, values[k]);
        }
        return desk;
    }

    private static int[] bytes(int... values) {
        return values;
    }

    private void places() {
        int[] lengths = {2, 2, 2, 3, 3, 3, 2, 1};
        int[] due = {40, 50, 51, 52, 53, 54, 55, 9};
        for (int m = 0; m < 8; m++) {
            ReplayDesk desk = desk(bytes(Check.code(0, m), 40, 1), 9, 3, 7, 255, 0);
            desk.poke(40, 50);
            desk.poke(43, 51);
            desk.poke(256 + 40, 52);
            desk.poke(256 + 43, 53);
            desk.poke(256 + 47, 54);
            desk.poke(41, 1);
            desk.poke(256 + 50 + 7, 55);
            desk.run(1);
            check.dueRegisters("load by place " + m, desk, due[m], 3, 7, 255, 0, lengths[m], 0);
        }
    }

    private void placesAtTheEdges() {
        // place 2 stays in the first 256 cells, of the others the lowest nine bits count
        ReplayDesk desk = desk(bytes(Check.code(0, 2), 250), 0, 10, 0, 255, 0);
        desk.poke(4, 77);
        desk.run(1);
        check.due("place 2 wraps at 256", desk.register(Check.A), 77);
        desk = desk(bytes(Check.code(0, 3), 5, 254), 0, 0, 0, 255, 0);
        desk.poke(5, 78);
        desk.run(1);
        check.due("place 3 with nine bits", desk.register(Check.A), 78);
        desk = desk(bytes(Check.code(0, 4), 255, 255), 0, 6, 0, 255, 0);
        desk.poke(5, 79);
        desk.run(1);
        check.due("place 4 wraps at 512", desk.register(Check.A), 79);
        desk = desk(bytes(Check.code(0, 5), 255, 1), 0, 0, 6, 255, 0);
        desk.poke(5, 80);
        desk.run(1);
        check.due("place 5 wraps at 512", desk.register(Check.A), 80);
        desk = desk(bytes(), 0, 0, 0, 255, 0);
        desk.poke(511, Check.code(0, 3));
        desk.poke(0, 300 - 256);
        desk.poke(1, 1);
        desk.poke(300, 81);
        desk.set(Check.PC, 511);
        desk.run(1);
        check.due("an instruction over the end of memory", desk.register(Check.A), 81);
        check.due("PC behind it", desk.register(Check.PC), 2);
        pointerOverThePage();
    }

    private void pointerOverThePage() {
        ReplayDesk desk = new ReplayDesk();
        desk.poke(100, Check.code(0, 6));
        desk.poke(101, 255);
        desk.poke(255, 20);
        desk.poke(0, 1);
        desk.poke(256, 2);
        desk.poke(256 + 25, 91);
        desk.poke(25, 92);
        desk.set(Check.Y, 5);
        desk.set(Check.PC, 100);
        desk.run(1);
        check.due("a pointer at 255 goes on at 0", desk.register(Check.A), 91);
        desk = new ReplayDesk();
        desk.poke(100, Check.code(0, 6));
        desk.poke(101, 10);
        desk.poke(10, 255);
        desk.poke(11, 255);
        desk.poke(4, 93);
        desk.set(Check.Y, 5);
        desk.set(Check.PC, 100);
        desk.run(1);
        check.due("u + Y wraps at 512", desk.register(Check.A), 93);
    }

    private void loads() {
        int[] values = {0, 1, 127, 128, 255};
        int[] flags = {Z, 0, 0, N, N};
        for (int register = 0; register < 3; register++) {
            for (int k = 0; k < values.length; k++) {
                ReplayDesk desk = desk(bytes(Check.code(register, 0), values[k]), 5, 6, 7, 8, V | C);
                desk.run(1);
                int[] due = {5, 6, 7, 8, V | C | flags[k], 2, 0};
                due[register] = values[k];
                check.dueRegisters("load " + register + " with " + values[k], desk, due);
            }
            ReplayDesk desk = desk(bytes(Check.code(register, 7)), 128, 6, 7, 8, Z);
            desk.run(1);
            check.due("register A as place of load " + register, desk.register(register), 128);
            check.due("its flags", desk.register(Check.P), N);
        }
    }

    private void stores() {
        for (int register = 0; register < 3; register++) {
            for (int p = 0; p <= ALL; p += ALL) {
                ReplayDesk desk = desk(bytes(Check.code(3 + register, 3), 44, 1), 0, 129, 7, 8, p);
                desk.run(1);
                check.due("store " + register, desk.cell(300), bytes(0, 129, 7)[register]);
                check.dueRegisters("store leaves all", desk, 0, 129, 7, 8, p, 3, 0);
                desk = desk(bytes(Check.code(3 + register, 7)), 0, 129, 7, 8, p);
                desk.run(1);
                check.dueRegisters("store in A", desk, bytes(0, 129, 7)[register], 129, 7, 8, p, 1, 0);
                check.due("store in A writes no cell", desk.wrote(0), -1);
            }
            ReplayDesk desk = desk(bytes(Check.code(3 + register, 0), 1), 5, 6, 7, 8, 0);
            desk.run(1);
            check.due("store behind the code", desk.cell(1), 5 + register);
        }
    }

    private void sum(int op, int a, int t, int p, int result, int flags) {
        ReplayDesk desk = desk(bytes(Check.code(op, 0), t), a, 1, 2, 3, p);
        desk.run(1);
        check.dueRegisters("op " + op + " of " + a + ", " + t + ", P " + p, desk, result, 1, 2, 3, flags, 2, 0);
    }

    private void sums() {
        sum(6, 1, 2, 0, 3, 0);
        sum(6, 1, 2, ALL, 4, 0);
        sum(6, 255, 1, 0, 0, Z | C);
        sum(6, 255, 0, C, 0, Z | C);
        sum(6, 255, 255, C, 255, N | C);
        sum(6, 127, 1, 0, 128, N | V);
        sum(6, 127, 0, C, 128, N | V);
        sum(6, 128, 128, 0, 0, V | Z | C);
        sum(6, 128, 255, 0, 127, V | C);
        sum(6, 128, 127, C, 0, Z | C);
        sum(6, 127, 128, 0, 255, N);
        sum(7, 5, 3, C, 2, C);
        sum(7, 5, 3, 0, 1, C);
        sum(7, 5, 5, C, 0, Z | C);
        sum(7, 5, 5, 0, 255, N);
        sum(7, 3, 5, C, 254, N);
        sum(7, 128, 1, C, 127, V | C);
        sum(7, 127, 255, C, 128, N | V);
        ReplayDesk desk = desk(bytes(Check.code(6, 7)), 65, 0, 0, 255, C);
        desk.run(1);
        check.due("A + A + C", desk.register(Check.A), 131);
        check.due("its flags", desk.register(Check.P), N | V);
        desk = desk(bytes(Check.code(7, 7)), 65, 0, 0, 255, 0);
        desk.run(1);
        check.due("A less A without C", desk.register(Check.A), 255);
    }

    private void logic() {
        sum(8, 0b1100, 0b1010, V | C, 0b1000, V | C);
        sum(8, 0b1100, 0b0011, N, 0, Z);
        sum(8, 255, 128, Z, 128, N);
        sum(9, 0b1100, 0b1010, V | C, 0b1110, V | C);
        sum(9, 0, 0, N, 0, Z);
        sum(9, 1, 128, Z, 129, N);
        sum(10, 0b1100, 0b1010, V | C, 0b0110, V | C);
        sum(10, 77, 77, N, 0, Z);
        sum(10, 1, 128, Z, 129, N);
    }

    private void comparisons() {
        for (int register = 0; register < 3; register++) {
            compare(register, 5, 5, V | N, V | Z | C);
            compare(register, 5, 6, C, N);
            compare(register, 6, 5, Z, C);
            compare(register, 0, 255, V | C, V);
            compare(register, 255, 0, 0, N | C);
            compare(register, 0, 0, 0, Z | C);
            compare(register, 200, 100, 0, C);
        }
        sum(14, 0, 192, 0, 0, N | V | Z);
        sum(14, 64, 64, N | Z | C, 64, V | C);
        sum(14, 1, 129, V, 1, N);
        sum(14, 2, 1, N | V, 2, Z);
    }

    private void compare(int register, int value, int t, int p, int flags) {
        int[] values = {50, 60, 70};
        values[register] = value;
        ReplayDesk desk = desk(bytes(Check.code(11 + register, 0), t), values[0], values[1], values[2], 3, p);
        desk.run(1);
        String what = "compare " + register + ": " + value + " with " + t;
        check.dueRegisters(what, desk, values[0], values[1], values[2], 3, flags, 2, 0);
    }

    private void change(int op, int t, int p, int result, int flags) {
        String what = "op " + op + " of " + t + ", P " + p;
        ReplayDesk desk = desk(bytes(Check.code(op, 1), 90), 1, 2, 3, 4, p);
        desk.poke(90, t);
        desk.run(1);
        check.due(what, desk.cell(90), result);
        check.dueRegisters(what, desk, 1, 2, 3, 4, flags, 2, 0);
        check.due(what + ", wrote", desk.wrote(0), 90);
        desk = desk(bytes(Check.code(op, 7)), t, 2, 3, 4, p);
        desk.run(1);
        check.dueRegisters(what + " in A", desk, result, 2, 3, 4, flags, 1, 0);
        check.due(what + " in A, wrote", desk.wrote(0), -1);
    }

    private void changes() {
        change(15, 5, V | C, 6, V | C);
        change(15, 255, 0, 0, Z);
        change(15, 127, Z, 128, N);
        change(16, 5, V | C, 4, V | C);
        change(16, 1, N, 0, Z);
        change(16, 0, Z, 255, N);
        change(17, 0b01000001, C | V, 0b10000010, N | V);
        change(17, 128, N, 0, Z | C);
        change(17, 0b11000000, 0, 128, N | C);
        change(18, 0b10000010, C | V | N, 0b01000001, V);
        change(18, 1, N, 0, Z | C);
        change(18, 255, C, 127, C);
        change(19, 0b01000001, C | V, 0b10000011, N | V);
        change(19, 128, C, 1, C);
        change(19, 128, 0, 0, Z | C);
        change(19, 1, 0, 2, 0);
        change(20, 0b00000010, C | V, 0b10000001, N | V);
        change(20, 1, 0, 0, Z | C);
        change(20, 1, C, 128, N | C);
        change(20, 128, N, 64, 0);
    }

    private void jumps() {
        int[] due = {2, 40, 43, 296, 299, 303, 313, 1};
        for (int m = 0; m < 8; m++) {
            ReplayDesk desk = desk(bytes(Check.code(21, m), 40, 1), 9, 3, 7, 100, ALL);
            desk.poke(40, 50);
            desk.poke(41, 1);
            desk.run(1);
            check.dueRegisters("jump by place " + m, desk, 9, 3, 7, 100, ALL, due[m], 0);
            check.due("a jump writes nothing", desk.wrote(0), -1);
        }
        ReplayDesk desk = desk(bytes(Check.code(21, 4), 255, 3), 0, 3, 0, 100, 0);
        desk.run(1);
        check.due("a jump wraps at 512", desk.register(Check.PC), 2);
    }

    private void calls() {
        int[] due = {302, 40, 43, 296, 299, 303, 313, 301};
        int[] back = {0, 302, 302, 303, 303, 303, 302, 0};
        for (int m = 0; m < 8; m++) {
            ReplayDesk desk = desk(bytes(), 9, 3, 7, 0, ALL);
            Check.write(desk, 300, Check.code(22, m), 40, 1);
            desk.poke(40, 50);
            desk.poke(41, 1);
            desk.set(Check.PC, 300);
            desk.run(1);
            boolean calls = m != 0 && m != 7;
            check.dueRegisters("call by place " + m, desk, 9, 3, 7, calls ? 254 : 0, ALL, due[m], 0);
            check.due("its page, by " + m, desk.cell(256), calls ? back[m] / 256 : 0);
            check.due("its low byte, by " + m, desk.cell(511), calls ? back[m] % 256 : 0);
            check.due("wrote, by " + m, desk.wrote(0), calls ? 511 : -1);
        }
        callOnTheStack();
    }

    /** The instruction is read before the pushes fall on it. */
    private void callOnTheStack() {
        ReplayDesk desk = desk(bytes(), 0, 0, 0, 46, 0);
        Check.write(desk, 300, Check.code(22, 3), 40, 0);
        desk.set(Check.PC, 300);
        desk.run(1);
        check.due("PC of a call over itself", desk.register(Check.PC), 40);
        check.due("the page over its third byte", desk.cell(302), 1);
        check.due("the low byte over its second", desk.cell(301), 303 - 256);
        desk.go(0);
        check.due("its third byte taken back", desk.cell(302), 0);
        check.due("its second byte taken back", desk.cell(301), 40);
    }

    private void stack() {
        ReplayDesk desk = desk(bytes(Check.code(23, 1), Check.code(23, 3), Check.code(23, 2), Check.code(23, 4)),
            200, 1, 2, 0, ALL);
        desk.run(1);
        check.dueRegisters("push A", desk, 200, 1, 2, 255, ALL, 1, 0);
        check.due("pushed A", desk.cell(256), 200);
        desk.run(1);
        check.dueRegisters("push P", desk, 200, 1, 2, 254, ALL, 2, 0);
        check.due("pushed P", desk.cell(511), 195);
        desk.poke(511, 0);
        desk.run(1);
        check.dueRegisters("take A", desk, 0, 1, 2, 255, V | Z | C, 3, 0);
        desk.poke(256, 255);
        desk.run(1);
        check.dueRegisters("take P", desk, 0, 1, 2, 0, ALL, 4, 0);
        desk = desk(bytes(Check.code(23, 2)), 0, 1, 2, 255, Z);
        desk.poke(256, 128);
        desk.run(1);
        check.dueRegisters("take A from 256", desk, 128, 1, 2, 0, N, 1, 0);
        desk = desk(bytes(Check.code(23, 0)), 0, 1, 2, 254, V);
        desk.poke(511, 7);
        desk.poke(256, 3);
        desk.run(1);
        check.dueRegisters("return", desk, 0, 1, 2, 0, V, 263, 0);
        check.due("a return writes nothing", desk.wrote(0), -1);
    }

    private void ports() {
        ReplayDesk desk = desk(bytes(Check.INPUT, Check.INPUT, Check.INPUT, Check.PUT_OUT, Check.HALT),
            5, 1, 2, 3, ALL);
        desk.feed(130);
        desk.feed(0);
        desk.run(1);
        check.dueRegisters("input 130", desk, 130, 1, 2, 3, N | V, 1, 0);
        desk.run(1);
        check.dueRegisters("input 0", desk, 0, 1, 2, 3, V | Z, 2, 0);
        desk.run(1);
        check.dueRegisters("no input", desk, 0, 1, 2, 3, V | Z | C, 3, 0);
        desk.set(Check.A, 99);
        desk.run(1);
        check.dueRegisters("put out", desk, 99, 1, 2, 3, V | Z | C, 4, 0);
        check.due("what was put out", desk.output(0), 99);
        desk.run(1);
        check.dueRegisters("halt", desk, 99, 1, 2, 3, V | Z | C, 5, 1);
        desk = desk(bytes(Check.INPUT), 200, 1, 2, 3, N);
        desk.run(1);
        check.dueRegisters("no input, A 200 before", desk, 0, 1, 2, 3, Z | C, 1, 0);
    }

    private void small(int op, int m, int[] before, int p, int[] after, int flags) {
        ReplayDesk desk = desk(bytes(Check.code(op, m)), before[0], before[1], before[2], before[3], p);
        desk.run(1);
        check.dueRegisters("op " + op + ", " + m, desk, after[0], after[1], after[2], after[3], flags, 1, 0);
        check.due("op " + op + ", " + m + " wrote", desk.wrote(0), -1);
    }

    private void registersAndFlags() {
        int[] start = {130, 0, 7, 255};
        small(24, 0, start, V | C | Z, bytes(130, 130, 7, 255), N | V | C);
        small(24, 1, start, N, bytes(0, 0, 7, 255), Z);
        small(24, 2, start, V | C | Z, bytes(130, 0, 130, 255), N | V | C);
        small(24, 3, start, N | Z, bytes(7, 0, 7, 255), 0);
        small(24, 4, start, Z, bytes(130, 255, 7, 255), N);
        small(24, 5, start, N | V, bytes(130, 0, 7, 0), N | V);
        small(24, 6, start, ALL, bytes(130, 1, 7, 255), V | C);
        small(24, 6, bytes(1, 255, 2, 3), N, bytes(1, 0, 2, 3), Z);
        small(24, 7, start, V | C | Z, bytes(130, 255, 7, 255), N | V | C);
        small(24, 7, bytes(1, 1, 2, 3), N, bytes(1, 0, 2, 3), Z);
        small(25, 0, start, ALL, bytes(130, 0, 8, 255), V | C);
        small(25, 0, bytes(1, 2, 255, 3), N, bytes(1, 2, 0, 3), Z);
        small(25, 1, start, ALL, bytes(130, 0, 6, 255), V | C);
        small(25, 1, bytes(1, 2, 0, 3), Z, bytes(1, 2, 255, 3), N);
        small(25, 2, start, ALL, start, N | V | Z);
        small(25, 3, start, 0, start, C);
        small(25, 4, start, ALL, start, N | Z | C);
    }

    private void branches() {
        int[] flags = {N, N, V, V, C, C, Z, Z};
        for (int m = 0; m < 8; m++) {
            boolean whenSet = m % 2 == 1;
            int takes = whenSet ? flags[m] : ALL - flags[m];
            branch(m, takes, 100, 5, 107);
            branch(m, takes, 100, 127, 229);
            branch(m, takes, 200, 128, 74);
            branch(m, takes, 100, 254, 100);
            branch(m, takes, 0, 253, 511);
            branch(m, takes, 505, 6, 1);
            branch(m, takes, 100, 0, 102);
            branch(m, ALL - takes, 100, 5, 102);
            branch(m, ALL - takes, 510, 5, 0);
        }
    }

    private void branch(int m, int p, int from, int distance, int due) {
        ReplayDesk desk = desk(bytes(), 1, 2, 3, 4, p);
        Check.write(desk, from, Check.code(26, m), distance);
        desk.set(Check.PC, from);
        desk.run(1);
        String what = "branch " + m + " with P " + p + " by " + distance + " from " + from;
        check.dueRegisters(what, desk, 1, 2, 3, 4, p, due, 0);
    }

    private void nothings() {
        int[] start = {1, 2, 3, 4};
        for (int p = 0; p <= ALL; p += ALL) {
            for (int m = 0; m < 8; m++) {
                for (int op = 27; op < 32; op++) {
                    small(op, m, start, p, start, p);
                }
                if (m >= 5) {
                    small(25, m, start, p, start, p);
                }
            }
        }
    }

    private static int toldFlags(int op, int m) {
        int[] by23 = {0, 0, N | Z, 0, ALL, 0, N | Z | C, 0};
        int[] by25 = {N | Z, N | Z, C, C, V, 0, 0, 0};
        if (op <= 10) {
            return op >= 3 && op <= 5 ? 0 : op == 6 || op == 7 ? ALL : N | Z;
        }
        if (op <= 20) {
            return op == 14 ? N | V | Z : op == 15 || op == 16 ? N | Z : N | Z | C;
        }
        return op == 23 ? by23[m] : op == 24 && m != 5 ? N | Z : op == 25 ? by25[m] : 0;
    }

    /** "Flags that are not told stay": each code with each P. */
    private void flagsThatAreNotToldStay() {
        for (int code = 0; code < 256; code++) {
            int told = toldFlags(code >> 3, code & 7);
            for (int k = 0; k < 16; k++) {
                int p = k % 4 + k / 4 * 64;
                ReplayDesk desk = desk(bytes(code, 100, 1), 5, 6, 7, 8, p);
                desk.run(1);
                String what = "flags not told by code " + code + " with P " + p;
                check.due(what, desk.register(Check.P) & ~told, p & ~told);
            }
        }
        for (int k = 0; k < 16; k++) {
            int p = k % 4 + k / 4 * 64;
            int[] start = {1, 2, 3, 4};
            small(25, 2, start, p, start, p & ~C);
            small(25, 3, start, p, start, p | C);
            small(25, 4, start, p, start, p & ~V);
        }
    }
}
