public final class Promise07SeekTest {
    private static final int STORE_A = Check.code(3, 1);

    public static void main(String[] args) {
        Check check = new Check();
        findsStops(check);
        findsWatchedWrites(check);
        findsBothWritesOfACall(check);
        looksOnlyBeforeThePresent(check);
        takesMarksAsTheyAreNow(check);
        check.finish();
    }

    private static void findsStops(Check check) {
        ReplayDesk desk = Check.deskWith(Check.X_PLUS_1, Check.code(21, 1), 0);
        desk.run(10);
        desk.stop(0, true);
        for (int t = 8; t >= 0; t -= 2) {
            check.due("seek to " + t, desk.seek(), t);
            check.due("time", desk.time(), t);
            check.due("X", desk.register(Check.X), t / 2);
            check.due("last", desk.last(), 10);
        }
        check.due("seek at moment 0", desk.seek(), -1);
        check.due("time stays", desk.time(), 0);
    }

    private static void findsWatchedWrites(Check check) {
        // the second store writes the byte that is there already
        ReplayDesk desk = Check.deskWith(STORE_A, 100, Check.X_PLUS_1, STORE_A, 100, Check.X_PLUS_1, STORE_A, 101);
        desk.set(Check.A, 9);
        desk.run(5);
        check.due("seek with no mark", desk.seek(), -1);
        check.due("time stays", desk.time(), 5);
        desk.watch(100, true);
        check.due("seek", desk.seek(), 2);
        check.due("seek", desk.seek(), 0);
        check.due("cell(100) before the step", desk.cell(100), 0);
        check.due("seek", desk.seek(), -1);
    }

    private static void findsBothWritesOfACall(Check check) {
        int[] pushed = {511, 510};
        for (int a : pushed) {
            ReplayDesk desk = Check.deskWith(Check.code(22, 1), 40);
            desk.watch(a, true);
            desk.run(3);
            check.due("seek with watch " + a, desk.seek(), 0);
        }
        ReplayDesk desk = Check.deskWith(Check.code(22, 1), 40);
        desk.watch(509, true);
        desk.run(3);
        check.due("seek with watch 509", desk.seek(), -1);
    }

    private static void looksOnlyBeforeThePresent(Check check) {
        ReplayDesk desk = Check.deskWith(Check.NOTHING, STORE_A, 100, Check.NOTHING, Check.NOTHING);
        desk.watch(100, true);
        desk.stop(4, true);
        desk.run(3);
        check.due("PC is the stop", desk.register(Check.PC), 4);
        check.due("seek passes over the present", desk.seek(), 1);
        check.due("seek at a met moment", desk.seek(), -1);
        check.due("time stays", desk.time(), 1);
        check.due("last stays", desk.last(), 3);
        desk.poke(0, 0);
        check.due("seek after the history began anew", desk.seek(), -1);
    }

    private static void takesMarksAsTheyAreNow(Check check) {
        ReplayDesk desk = Check.deskWith(Check.NOTHING, Check.NOTHING, Check.NOTHING);
        desk.stop(1, true);
        desk.run(1);
        desk.run(3);
        desk.stop(1, false);
        desk.stop(2, true);
        check.due("seek", desk.seek(), 2);
        check.due("seek", desk.seek(), -1);
        desk.stop(0, true);
        check.due("seek", desk.seek(), 0);
        desk.go(3);
        check.due("seek to the moment just before", desk.seek(), 2);
    }
}
