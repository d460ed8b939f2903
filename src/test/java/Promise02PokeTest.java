public final class Promise02PokeTest {
    public static void main(String[] args) {
        Check check = new Check();
        ReplayDesk desk = new ReplayDesk();
        check.due("poke(0, 1)", desk.poke(0, 1), true);
        check.due("cell(0)", desk.cell(0), 1);
        check.due("poke(511, 256 + 7)", desk.poke(511, 256 + 7), true);
        check.due("cell(511)", desk.cell(511), 7);
        check.due("poke(255, -1)", desk.poke(255, -1), true);
        check.due("cell(255)", desk.cell(255), 255);
        check.due("cell(256)", desk.cell(256), 0);
        reachesEveryCell(check);
        keepsTheLowestEightBits(check);
        refusesOthers(check);
        beginsTheHistoryAnew(check);
        check.finish();
    }

    private static void reachesEveryCell(Check check) {
        for (int from = 0; from < 512; from += 128) {
            ReplayDesk desk = new ReplayDesk();
            for (int a = from; a < from + 128; a++) {
                check.due("poke(" + a + ")", desk.poke(a, a + 1), true);
            }
            for (int a = from; a < from + 128; a++) {
                check.due("cell(" + a + ")", desk.cell(a), (a + 1) % 256);
                check.due("a cell that was not poked", desk.cell(a ^ 128), 0);
            }
        }
    }

    private static void keepsTheLowestEightBits(Check check) {
        int[] values = {-257, -256, -255, -1, 0, 255, 256, 257, 511, 512, Integer.MIN_VALUE, Integer.MAX_VALUE};
        int[] due = {255, 0, 1, 255, 0, 255, 0, 1, 255, 0, 0, 255};
        ReplayDesk desk = new ReplayDesk();
        for (int k = 0; k < values.length; k++) {
            desk.poke(5, 77);
            check.due("poke(5, " + values[k] + ")", desk.poke(5, values[k]), true);
            check.due("cell(5) after it", desk.cell(5), due[k]);
            check.due("cell(6) after it", desk.cell(6), 0);
        }
    }

    private static void refusesOthers(Check check) {
        ReplayDesk desk = Check.deskWith(Check.X_PLUS_1);
        desk.run(2);
        int[] wrong = {-1, 512, 513, 1024, Integer.MIN_VALUE, Integer.MAX_VALUE};
        for (int a : wrong) {
            check.due("poke(" + a + ", 9)", desk.poke(a, 9), false);
        }
        check.due("time after refusals", desk.time(), 2);
        check.due("last after refusals", desk.last(), 2);
        check.due("cell(0) after refusals", desk.cell(0), Check.X_PLUS_1);
        check.due("cell(511) after refusals", desk.cell(511), 0);
    }

    private static void beginsTheHistoryAnew(Check check) {
        int storeX = Check.code(4, 1);
        ReplayDesk desk = Check.deskWith(Check.X_PLUS_1, storeX, 100, Check.X_PLUS_1, storeX, 101, Check.PUT_OUT);
        desk.stop(3, true);
        desk.watch(100, true);
        desk.run(9);
        desk.run(9);
        desk.go(2);
        check.due("poke of the same byte", desk.poke(0, Check.X_PLUS_1), true);
        check.due("time", desk.time(), 0);
        check.due("last", desk.last(), 0);
        check.due("X stays", desk.register(Check.X), 1);
        check.due("PC stays", desk.register(Check.PC), 3);
        check.due("the written cell stays", desk.cell(100), 1);
        check.due("the later write is gone", desk.cell(101), 0);
        check.due("the later output is gone", desk.puts(), 0);
        check.due("wrote(0)", desk.wrote(0), -1);
        check.due("go(1)", desk.go(1), false);
        check.due("the stop stays", desk.stop(3, true), false);
        check.due("the watch stays", desk.watch(100, true), false);
        check.due("run goes on from here", desk.run(3), 3);
        check.due("X", desk.register(Check.X), 2);
        check.due("puts", desk.puts(), 1);
    }
}
