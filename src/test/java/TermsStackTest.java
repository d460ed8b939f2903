/** "To PUSH a byte: cell 256 + S becomes it, S becomes S - 1. To TAKE one: S becomes S + 1, it is cell 256 + S." */
public final class TermsStackTest {
    private static final int[] MODES_OF_CALLS = {1, 2, 3, 4, 5, 6};

    private final Check check = new Check();

    public static void main(String[] args) {
        TermsStackTest test = new TermsStackTest();
        for (int s = 0; s < 256; s++) {
            test.pushes(s);
            test.takes(s);
            test.calls(s);
            test.returns(s);
        }
        test.pcThatWrappedIsPushed();
        test.callsReadThemselvesBeforeTheyPush();
        test.check.finish();
    }

    private static int below(int s) {
        return s == 0 ? 255 : s - 1;
    }

    private static int above(int s) {
        return s == 255 ? 0 : s + 1;
    }

    private static ReplayDesk desk(int s, int... bytes) {
        ReplayDesk desk = Check.deskWith(bytes);
        desk.set(Check.S, s);
        return desk;
    }

    private void pushes(int s) {
        int[] codes = {Check.code(23, 1), Check.code(23, 3)};
        int[] due = {77, Check.V | Check.C};
        for (int k = 0; k < 2; k++) {
            ReplayDesk desk = desk(s, codes[k]);
            desk.set(Check.A, 77);
            desk.set(Check.P, Check.V | Check.C);
            desk.poke(256 + below(s), 5);
            desk.poke(256 + above(s), 6);
            desk.run(1);
            check.due("pushed at S " + s, desk.cell(256 + s), due[k]);
            check.due("S behind it", desk.register(Check.S), below(s));
            check.due("wrote", desk.wrote(0), 256 + s);
            check.due("the cell below", desk.cell(256 + below(s)), 5);
            check.due("the cell above", desk.cell(256 + above(s)), 6);
            desk.go(0);
            check.due("taken back at S " + s, desk.cell(256 + s), 0);
            check.due("S taken back", desk.register(Check.S), s);
        }
    }

    private void takes(int s) {
        ReplayDesk desk = desk(s, Check.code(23, 2), Check.code(23, 4));
        desk.poke(256 + s, 1);
        desk.poke(256 + above(s), 200);
        desk.poke(256 + above(above(s)), 255);
        desk.run(1);
        check.due("A taken at S " + s, desk.register(Check.A), 200);
        check.due("N and Z of it", desk.register(Check.P), Check.N);
        check.due("S behind it", desk.register(Check.S), above(s));
        check.due("a take writes nothing", desk.wrote(0), -1);
        desk.run(1);
        check.due("of P the flags alone are taken", desk.register(Check.P), 195);
        check.due("S behind both", desk.register(Check.S), above(above(s)));
        desk.go(0);
        check.due("S taken back", desk.register(Check.S), s);
    }

    /** "22: before, PC / 256 and then PC & 255 are pushed". */
    private void calls(int s) {
        // the instruction stands in the other page, or where the pushes do not fall
        int from = s >= 40 && s < 50 ? 340 : 296;
        ReplayDesk desk = Check.deskAt(from, Check.code(22, 3), 200, 0);
        desk.set(Check.S, s);
        desk.poke(256 + s, 111);
        desk.poke(256 + below(s), 112);
        desk.run(1);
        check.due("PC of a call at S " + s, desk.register(Check.PC), 200);
        check.due("its page", desk.cell(256 + s), 1);
        check.due("its low byte", desk.cell(256 + below(s)), from + 3 - 256);
        check.due("S behind it", desk.register(Check.S), below(below(s)));
        check.due("of two the second", desk.wrote(0), 256 + below(s));
        desk.go(0);
        check.due("the first taken back", desk.cell(256 + s), 111);
        check.due("the second taken back", desk.cell(256 + below(s)), 112);
    }

    private void returns(int s) {
        ReplayDesk desk = desk(s, Check.code(23, 0));
        desk.poke(256 + s, 9);
        desk.poke(256 + above(s), 33);
        desk.poke(256 + above(above(s)), 1);
        desk.run(1);
        check.due("PC of a return at S " + s, desk.register(Check.PC), 256 + 33);
        check.due("S behind it", desk.register(Check.S), above(above(s)));
        check.due("a return writes nothing", desk.wrote(0), -1);
    }

    /** "PC is first put behind the instruction", and wraps at 512 before it is pushed. */
    private void pcThatWrappedIsPushed() {
        int[] due = {0, 1, 2};
        for (int from = 509; from < 512; from++) {
            ReplayDesk desk = Check.deskAt(from, Check.code(22, 3), 200, 0);
            desk.set(Check.S, 100);
            desk.poke(256 + 100, 9);
            desk.run(1);
            check.due("the page behind a call at " + from, desk.cell(256 + 100), 0);
            check.due("the low byte behind it", desk.cell(256 + 99), due[from - 509]);
        }
    }

    /** "i is the cell behind it, w = i + 256 * the cell behind that" stands before what an instruction does. */
    private void callsReadThemselvesBeforeTheyPush() {
        int[] due = {0, 40, 43, 40, 43, 47, 57};
        for (int m : MODES_OF_CALLS) {
            for (int s = 43; s <= 48; s++) {
                ReplayDesk desk = Check.deskAt(300, Check.code(22, m), 40, 0);
                desk.set(Check.S, s);
                desk.set(Check.X, 3);
                desk.set(Check.Y, 7);
                desk.poke(40, 50);
                desk.run(1);
                String what = "a call over itself, m " + m + ", S " + s;
                check.due(what, desk.register(Check.PC), due[m]);
                check.due(what + ", its page", desk.cell(256 + s), 1);
                int length = m >= 3 && m <= 5 ? 3 : 2;
                check.due(what + ", its low byte", desk.cell(255 + s), 44 + length);
                desk.go(0);
                check.due(what + ", taken back", desk.cell(300), Check.code(22, m));
                check.due(what + ", taken back", desk.cell(301), 40);
                check.due(what + ", taken back", desk.cell(302), 0);
                desk.run(1);
                check.due(what + ", made again", desk.register(Check.PC), due[m]);
            }
        }
    }
}
