import java.util.function.Predicate;

/**
 * "The history BEGINS ANEW with the present (time and last become 0; what was put out, stops and watches
 * stay) with each poke(), set() and feed() that is not refused (also if it changes nothing)."
 */
public final class TermsBeginsAnewTest {
    private static final int STORE_X = Check.code(4, 1);
    private static final int JUMP = Check.code(21, 1);
    private static final int[] MOMENTS = {0, 1, 6, 7, 47, 48, 53, 54, 55, 150, 299, 300};

    private final Check check = new Check();

    public static void main(String[] args) {
        TermsBeginsAnewTest test = new TermsBeginsAnewTest();
        for (int t : MOMENTS) {
            test.pokes(t);
            test.sets(t);
            test.feeds(t);
        }
        test.atTheFirstMoment();
        test.refusedOnesDoNot();
        test.otherCallsDoNot();
        test.check.finish();
    }

    /** Rounds of six steps: X + 1, cell 100 becomes X, input, A = X, put out, jump; now at moment t of 300. */
    private static ReplayDesk deskAt(int t) {
        ReplayDesk desk = Check.deskWith(Check.X_PLUS_1, STORE_X, 100, Check.INPUT, Check.code(24, 1), Check.PUT_OUT,
            JUMP, 0);
        for (int k = 0; k < 20; k++) {
            desk.feed(k);
        }
        desk.run(300);
        desk.stop(6, true);
        desk.stop(511, true);
        desk.watch(100, true);
        desk.watch(0, true);
        desk.go(t);
        return desk;
    }

    private void pokes(int t) {
        int[] addresses = {0, 6, 100, 255, 256, 511};
        for (int a : addresses) {
            anew("poke(" + a + ") of its own byte at " + t, t, 0, d -> d.poke(a, d.cell(a)));
        }
    }

    private void sets(int t) {
        for (int k = 0; k <= 6; k++) {
            int register = k;
            anew("set(" + k + ") of its own value at " + t, t, 0, d -> d.set(register, d.register(register)));
        }
    }

    private void feeds(int t) {
        anew("feed at " + t, t, 1, d -> d.feed(55));
    }

    private void anew(String what, int t, int fed, Predicate<ReplayDesk> call) {
        ReplayDesk desk = deskAt(t);
        int[] registers = new int[7];
        for (int k = 0; k < 7; k++) {
            registers[k] = desk.register(k);
        }
        int[] cells = new int[10];
        for (int k = 0; k < 10; k++) {
            cells[k] = desk.cell(96 + k);
        }
        int waiting = desk.waiting();
        check.due(what, call.test(desk), true);
        check.due(what + ": time", desk.time(), 0);
        check.due(what + ": last", desk.last(), 0);
        check.due(what + ": go(1)", desk.go(1), false);
        check.due(what + ": wrote(0)", desk.wrote(0), -1);
        check.due(what + ": seek", desk.seek(), -1);
        check.dueRegisters(what, desk, registers);
        for (int k = 0; k < 10; k++) {
            check.due(what + ": cell(" + (96 + k) + ")", desk.cell(96 + k), cells[k]);
        }
        check.due(what + ": waiting", desk.waiting(), waiting + fed);
        dueOutputs(what, desk, (t + 1) / 6);
        dueMarks(what, desk);
        dueFullHistory(what, desk, t, waiting + fed);
    }

    private void dueOutputs(String what, ReplayDesk desk, int puts) {
        check.due(what + ": puts", desk.puts(), puts);
        for (int k = 0; k < 9; k++) {
            int due = k < 8 && k < puts ? puts - k : -1;
            check.due(what + ": output(" + k + ")", desk.output(k), due);
        }
    }

    private void dueMarks(String what, ReplayDesk desk) {
        int[] addresses = {6, 511, 100, 0};
        for (int k = 0; k < 4; k++) {
            int a = addresses[k];
            check.due(what + ": stop " + a + " stays", desk.stop(a, true), k >= 2);
            check.due(what + ": watch " + a + " stays", desk.watch(a, true), k < 2);
        }
    }

    /** The new history is as long as any, and begins where the old one was left. */
    private void dueFullHistory(String what, ReplayDesk desk, int t, int waiting) {
        for (int a = 0; a < 512; a += a == 0 ? 6 : a == 6 ? 94 : 411) {
            desk.stop(a, false);
        }
        check.due(what + ": run(300)", desk.run(300), 300);
        check.due(what + ": run(1) at 300", desk.run(1), 0);
        check.due(what + ": waiting at 300", desk.waiting(), 0);
        dueOutputs(what + ", 300 steps on", desk, (t + 301) / 6);
        check.due(what + ": X, 300 steps on", desk.register(Check.X), (t + 305) / 6);
        desk.go(0);
        check.due(what + ": waiting at 0", desk.waiting(), waiting);
        dueOutputs(what + ", back at 0", desk, (t + 1) / 6);
        check.due(what + ": X at 0", desk.register(Check.X), (t + 5) / 6);
    }

    private void atTheFirstMoment() {
        ReplayDesk desk = new ReplayDesk();
        check.due("poke at first", desk.poke(0, 0), true);
        check.due("set at first", desk.set(0, 0), true);
        check.due("feed at first", desk.feed(0), true);
        check.due("time", desk.time(), 0);
        check.due("last", desk.last(), 0);
        check.due("run(300)", desk.run(300), 300);
    }

    private void refusedOnesDoNot() {
        ReplayDesk desk = deskAt(0);
        for (int k = 0; k < 20; k++) {
            desk.feed(k);
        }
        desk.go(0);
        desk.run(2);
        desk.go(1);
        check.due("poke(512)", desk.poke(512, 1), false);
        check.due("poke(-1)", desk.poke(-1, 1), false);
        check.due("set(7)", desk.set(7, 1), false);
        check.due("set(-1)", desk.set(-1, 1), false);
        check.due("feed where 40 wait", desk.feed(1), false);
        check.due("time", desk.time(), 1);
        check.due("last", desk.last(), 2);
        check.due("wrote(1)", desk.wrote(1), 100);
    }

    private void otherCallsDoNot() {
        ReplayDesk desk = deskAt(150);
        desk.stop(3, true);
        desk.watch(3, true);
        desk.run(0);
        desk.cell(0);
        desk.register(0);
        desk.go(149);
        check.due("time", desk.time(), 149);
        check.due("last", desk.last(), 300);
    }
}
