/**
 * "Moment t is MET if PC is a stop at it, or t is not last and the step from it writes a watched cell (also
 * with the same byte)."
 */
public final class TermsMetTest {
    private static final int STORE_A = Check.code(3, 1);
    private static final int STORE_A_WIDE = Check.code(3, 3);

    private final Check check = new Check();

    public static void main(String[] args) {
        TermsMetTest test = new TermsMetTest();
        test.stopsAndWatchesAreAddresses0To511();
        test.atMostFourEach();
        test.theLastMomentIsNotMetByAWatch();
        test.writesOfTheSameByteCount();
        test.eachKindOfWriteCounts();
        test.whatWritesNoCellDoesNotCount();
        test.eitherWriteOfACallCounts();
        test.thePresentDoesNotCount();
        test.theLatestIsFound();
        test.moment0CanBeMet();
        test.moment299CanBeMet();
        test.stopsEndARunBehindItsFirstStep();
        test.check.finish();
    }

    /** "A STOP and a WATCH are addresses 0 .. 511": each of them. */
    private void stopsAndWatchesAreAddresses0To511() {
        for (int a = 0; a < 512; a++) {
            ReplayDesk stopped = Check.deskAt((a + 511) % 512, Check.NOTHING, Check.NOTHING, Check.NOTHING);
            check.due("stop " + a, stopped.stop(a, true), true);
            check.due("run to stop " + a, stopped.run(3), 1);
            check.due("run on from stop " + a, stopped.run(2), 2);
            check.due("seek to stop " + a, stopped.seek(), 1);
            check.due("PC there", stopped.register(Check.PC), a);

            int from = a < 256 ? 300 : 30;
            ReplayDesk watched = Check.deskAt(from, Check.NOTHING, STORE_A_WIDE, a, a >> 8, Check.NOTHING);
            check.due("watch " + a, watched.watch(a, true), true);
            check.due("a watch ends no run", watched.run(3), 3);
            check.due("seek to watch " + a, watched.seek(), 1);
            check.due("and no further", watched.seek(), -1);
        }
        ReplayDesk desk = new ReplayDesk();
        int[] wrong = {-1, 512, -512, 511 + 512};
        for (int a : wrong) {
            check.due("stop " + a, desk.stop(a, true), false);
            check.due("watch " + a, desk.watch(a, true), false);
        }
        check.due("PC 0 is no stop by them", desk.run(300), 300);
        check.due("nor is 511 or 0 met", desk.seek(), -1);
    }

    /** "at most 4 each": four stops and four watches beside one another, all in use, and no fifth. */
    private void atMostFourEach() {
        ReplayDesk desk = new ReplayDesk();
        for (int k = 0; k < 5; k++) {
            check.due("stop " + 2 * k, desk.stop(2 * k, true), k < 4);
            check.due("watch " + (2 * k + 1), desk.watch(2 * k + 1, true), k < 4);
        }
        for (int k = 1; k < 4; k++) {
            check.due("run to stop " + 2 * k, desk.run(300), 1);
        }
        check.due("the fifth is no stop", desk.run(3), 3);
        check.due("seek to the fourth", desk.seek(), 3);
        check.due("the fourth off", desk.stop(6, false), true);
        check.due("the fifth has room", desk.stop(8, true), true);
        desk.go(0);
        for (int k = 1; k < 3; k++) {
            desk.run(300);
        }
        check.due("run over the fourth to the fifth", desk.run(300), 2);
        watchesOfFour();
    }

    private void watchesOfFour() {
        ReplayDesk desk = Check.deskWith(STORE_A, 100, STORE_A, 101, STORE_A, 102, STORE_A, 103, STORE_A, 104);
        for (int k = 0; k < 5; k++) {
            check.due("watch " + (100 + k), desk.watch(100 + k, true), k < 4);
        }
        desk.run(6);
        for (int t = 3; t >= -1; t--) {
            check.due("seek over four watches", desk.seek(), t);
        }
        check.due("the first off", desk.watch(100, false), true);
        check.due("the fifth has room", desk.watch(104, true), true);
        desk.go(6);
        for (int t = 4; t >= 1; t--) {
            check.due("seek over the other four", desk.seek(), t);
        }
        check.due("the first is watched no more", desk.seek(), -1);
    }

    /** "t is not last": the step from the last moment has not been made. */
    private void theLastMomentIsNotMetByAWatch() {
        ReplayDesk desk = Check.deskWith(Check.NOTHING, STORE_A, 100);
        desk.watch(100, true);
        desk.run(1);
        check.due("wrote(1) at the last", desk.wrote(1), -1);
        check.due("seek at the last", desk.seek(), -1);
        check.due("time stays", desk.time(), 1);
        desk.run(1);
        check.due("wrote(1) behind it", desk.wrote(1), 100);
        check.due("seek behind it", desk.seek(), 1);
        // a shorter history does not see the writes of the one before
        desk.poke(1, Check.NOTHING);
        desk.poke(2, Check.NOTHING);
        desk.set(Check.PC, 300);
        desk.run(2);
        check.due("wrote(1) of the new history", desk.wrote(1), -1);
        check.due("seek in the new history", desk.seek(), -1);
    }

    private void writesOfTheSameByteCount() {
        ReplayDesk desk = Check.deskWith(STORE_A, 100, Check.NOTHING, STORE_A, 100, Check.NOTHING);
        desk.set(Check.A, 7);
        desk.poke(100, 7);
        desk.watch(100, true);
        desk.run(4);
        check.due("wrote(0)", desk.wrote(0), 100);
        check.due("wrote(2)", desk.wrote(2), 100);
        check.due("seek", desk.seek(), 2);
        check.due("seek", desk.seek(), 0);
        ReplayDesk call = Check.deskWith(Check.code(22, 1), 40);
        call.poke(510, 2);
        call.watch(511, true);
        call.run(2);
        check.due("a call that changes no cell", call.seek(), 0);
        call.watch(511, false);
        call.watch(510, true);
        call.run(1);
        check.due("its second write", call.seek(), 0);
    }

    private void eachKindOfWriteCounts() {
        int[] ops = {3, 4, 5, 15, 16, 17, 18, 19, 20};
        for (int op : ops) {
            ReplayDesk desk = Check.deskWith(Check.code(op, 1), 100);
            desk.watch(100, true);
            desk.run(2);
            check.due("seek with op " + op, desk.seek(), 0);
            check.due("wrote with op " + op, desk.wrote(0), 100);
        }
        int[] pushes = {1, 3};
        for (int m : pushes) {
            ReplayDesk desk = Check.deskWith(Check.code(23, m));
            desk.watch(511, true);
            desk.run(2);
            check.due("seek with a push, " + m, desk.seek(), 0);
        }
    }

    private void whatWritesNoCellDoesNotCount() {
        for (int code = 0; code < 256; code++) {
            int op = code >> 3;
            int m = code & 7;
            boolean changesPlace = op >= 3 && op <= 5 || op >= 15 && op <= 20;
            boolean pushes = op == 22 && m >= 1 && m <= 6 || op == 23 && (m == 1 || m == 3);
            if (!(changesPlace && m != 7) && !pushes) {
                ReplayDesk desk = Check.deskWith(code, 100);
                int[] near = {0, 1, 100, 511};
                for (int a : near) {
                    desk.watch(a, true);
                }
                desk.run(1);
                check.due("wrote with code " + code, desk.wrote(0), -1);
                check.due("seek with code " + code, desk.seek(), -1);
            }
        }
    }

    private void eitherWriteOfACallCounts() {
        for (int m = 1; m <= 6; m++) {
            for (int a = 508; a < 512; a++) {
                ReplayDesk desk = Check.deskWith(Check.code(22, m), 40);
                desk.watch(a, true);
                desk.run(1);
                check.due("seek with watch " + a + " and a call by " + m, desk.seek(), a >= 510 ? 0 : -1);
            }
        }
    }

    /** "the latest moment before the present". */
    private void thePresentDoesNotCount() {
        ReplayDesk desk = Check.deskWith(Check.NOTHING, Check.NOTHING, STORE_A, 100, Check.NOTHING);
        desk.stop(2, true);
        desk.watch(100, true);
        desk.run(3);
        desk.run(2);
        check.due("seek", desk.seek(), 2);
        check.due("seek at a moment met by both", desk.seek(), -1);
        check.due("time stays", desk.time(), 2);
        check.due("last stays", desk.last(), 4);
        desk.go(1);
        check.due("seek before any met moment", desk.seek(), -1);
        desk.go(3);
        check.due("seek just behind it", desk.seek(), 2);
    }

    private void theLatestIsFound() {
        ReplayDesk desk = Check.deskWith(Check.NOTHING, STORE_A, 100, Check.NOTHING, Check.NOTHING, STORE_A, 101,
            Check.NOTHING);
        desk.run(6);
        desk.stop(3, true);
        desk.watch(100, true);
        desk.stop(0, true);
        desk.watch(101, true);
        int[] due = {4, 2, 1, 0, -1, -1};
        for (int t : due) {
            check.due("seek over stops and watches", desk.seek(), t);
        }
        check.due("time stays", desk.time(), 0);
        desk.go(6);
        desk.stop(3, false);
        desk.watch(101, false);
        check.due("by stops and watches as they are now", desk.seek(), 1);
    }

    private void moment0CanBeMet() {
        ReplayDesk desk = new ReplayDesk();
        desk.stop(0, true);
        check.due("seek at moment 0, which is met", desk.seek(), -1);
        desk.run(1);
        check.due("seek to moment 0", desk.seek(), 0);
        check.due("time", desk.time(), 0);
    }

    private void moment299CanBeMet() {
        ReplayDesk desk = Check.deskWith(Check.code(15, 1), 100, Check.code(21, 1), 0);
        desk.set(Check.PC, 2);
        desk.run(300);
        desk.watch(100, true);
        check.due("wrote(299)", desk.wrote(299), 100);
        check.due("seek from 300", desk.seek(), 299);
        check.due("seek from 299", desk.seek(), 297);
        desk.go(300);
        desk.stop(2, true);
        check.due("PC at 300 is a stop", desk.register(Check.PC), 2);
        check.due("seek passes over 300", desk.seek(), 299);
        check.due("seek to the stop", desk.seek(), 298);
    }

    /** "fewer if ... behind the first (which is made also if PC is a stop), PC is a stop". */
    private void stopsEndARunBehindItsFirstStep() {
        ReplayDesk desk = Check.deskWith(Check.code(21, 1), 0);
        desk.stop(0, true);
        for (int t = 1; t <= 5; t++) {
            check.due("run(300) on a jump to itself", desk.run(300), 1);
            check.due("time", desk.time(), t);
        }
        desk.go(0);
        check.due("run(300) over the old moments", desk.run(300), 1);
        desk.stop(0, false);
        check.due("run(300) without the stop", desk.run(300), 299);
        ReplayDesk halted = Check.deskWith(Check.HALT);
        halted.stop(0, true);
        halted.set(Check.HALTED, 1);
        check.due("the first is not made if none can be", halted.run(5), 0);
    }
}
