/** "Bytes wrap at 256": every pair of bytes, and every byte, for the instructions that reckon with them. */
public final class TermsBytesTest {
    private static final int N = Check.N;
    private static final int V = Check.V;
    private static final int Z = Check.Z;
    private static final int C = Check.C;
    private static final int ALL = N | V | Z | C;

    private final Check check = new Check();
    private ReplayDesk desk;
    private int calls;

    public static void main(String[] args) {
        TermsBytesTest test = new TermsBytesTest();
        for (int t = 0; t < 256; t++) {
            for (int a = 0; a < 256; a++) {
                test.pair(a, t);
            }
            for (int p = 0; p < 16; p++) {
                test.one(t, (p & 3) + (p >> 2) * 64);
            }
        }
        test.check.finish();
    }

    /** An object is used for at most 512 calls. */
    private ReplayDesk deskFor(int needed) {
        if (desk == null || calls + needed > 512) {
            desk = new ReplayDesk();
            calls = 0;
        }
        calls += needed;
        return desk;
    }

    private static int nz(int result) {
        return (result & 128) + (result == 0 ? Z : 0);
    }

    private void instruction(int op, int m, int register, int value, int t, int p, int result, int flags) {
        ReplayDesk used = deskFor(8);
        used.poke(0, Check.code(op, m));
        used.poke(1, t);
        used.set(register, value);
        used.set(Check.P, p);
        used.set(Check.PC, 0);
        used.run(1);
        int gotResult = used.register(register);
        int gotFlags = used.register(Check.P);
        if (gotResult != result || gotFlags != flags) {
            String what = "op " + op + ", m " + m + " of " + value + " and " + t + " with P " + p;
            check.due(what, gotResult, result);
            check.due(what + ", P", gotFlags, flags);
        }
    }

    private void pair(int a, int t) {
        for (int c = 0; c < 2; c++) {
            sum(6, a, t, t, c);
            sum(7, a, t, 255 - t, c);
        }
        for (int register = 0; register < 3; register++) {
            int flags = nz((a - t) & 255) + (a >= t ? C : 0);
            instruction(11 + register, 0, register, a, t, V, a, V + flags);
        }
        instruction(8, 0, Check.A, a, t, C, a & t, C + nz(a & t));
        instruction(9, 0, Check.A, a, t, V, a | t, V + nz(a | t));
        instruction(10, 0, Check.A, a, t, ALL, a ^ t, V + C + nz(a ^ t));
        instruction(14, 0, Check.A, a, t, C, a, C + (t & 192) + ((a & t) == 0 ? Z : 0));
    }

    /** "C if the sum is above 255, V if both terms have the same bit 128 and the result another one". */
    private void sum(int op, int a, int t, int term, int c) {
        int sum = a + term + c;
        int result = sum % 256;
        boolean over = a / 128 == term / 128 && result / 128 != a / 128;
        int flags = nz(result) + (sum > 255 ? C : 0) + (over ? V : 0);
        instruction(op, 0, Check.A, a, t, c, result, flags);
        instruction(op, 0, Check.A, a, t, c + N + V + Z, result, flags);
    }

    private void one(int t, int p) {
        int v = p & V;
        int c = p & C;
        changed(15, t, p, (t + 1) % 256, v + c);
        changed(16, t, p, (t + 255) % 256, v + c);
        changed(17, t, p, t * 2 % 256, v + t / 128);
        changed(18, t, p, t / 2, v + t % 2);
        changed(19, t, p, t * 2 % 256 + c, v + t / 128);
        changed(20, t, p, t / 2 + 128 * c, v + t % 2);
        instruction(24, 6, Check.X, t, 0, p, (t + 1) % 256, v + c + nz((t + 1) % 256));
        instruction(24, 7, Check.X, t, 0, p, (t + 255) % 256, v + c + nz((t + 255) % 256));
        instruction(25, 0, Check.Y, t, 0, p, (t + 1) % 256, v + c + nz((t + 1) % 256));
        instruction(25, 1, Check.Y, t, 0, p, (t + 255) % 256, v + c + nz((t + 255) % 256));
    }

    private void changed(int op, int t, int p, int result, int others) {
        instruction(op, 7, Check.A, t, 0, p, result, others + nz(result));
        ReplayDesk used = deskFor(7);
        used.poke(0, Check.code(op, 0));
        used.poke(1, t);
        used.set(Check.P, p);
        used.set(Check.PC, 0);
        used.run(1);
        check.due("op " + op + " of " + t + " with P " + p, used.cell(1), result);
        check.due("its P", used.register(Check.P), others + nz(result));
    }
}
