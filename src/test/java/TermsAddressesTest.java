/** Where addresses, places and PC come to their ends. */
public final class TermsAddressesTest {
    private static final int LOAD = 0;
    private static final int STORE = 3;
    private static final int PLUS_1 = 15;
    private static final int JUMP = 21;
    private static final int CALL = 22;
    private static final int FROM = 300;

    private final Check check = new Check();

    public static void main(String[] args) {
        TermsAddressesTest test = new TermsAddressesTest();
        test.ofAnAddressTheLowestNineBitsCount();
        test.wPlusXAndWPlusY();
        test.uPlusY();
        test.theSecondByteOfUIsInTheFirstPage();
        test.iPlusXStaysInTheFirstPage();
        test.cellI();
        test.theCellBehindTheLast();
        test.instructionsOverTheEnd();
        test.pcWrapsAt512();
        test.branchesTakeIAsMinus128To127();
        test.returnsTakeNineBits();
        test.check.finish();
    }

    /** An instruction at FROM, with pointers in cells 10, 254 and 255 where u is told. */
    private static ReplayDesk desk(int op, int m, int i, int high, int x, int y, int u) {
        ReplayDesk desk = Check.deskAt(FROM, Check.code(op, m), i, high);
        desk.set(Check.X, x);
        desk.set(Check.Y, y);
        if (u >= 0) {
            desk.poke(i, u);
            desk.poke((i + 1) & 255, u >> 8);
        }
        return desk;
    }

    /** The place is the same for each instruction that has one: cell `want`, and not the one 256 away. */
    private void place(int m, int i, int high, int x, int y, int u, int want) {
        String what = "place " + m + " of " + i + ", " + high + ", X " + x + ", Y " + y + ", u " + u;
        ReplayDesk load = desk(LOAD, m, i, high, x, y, u);
        load.poke(want, 123);
        load.poke(want ^ 256, 45);
        load.run(1);
        check.due(what + ", load", load.register(Check.A), 123);

        ReplayDesk store = desk(STORE, m, i, high, x, y, u);
        store.set(Check.A, 99);
        int other = store.cell(want ^ 256);
        store.run(1);
        check.due(what + ", stored", store.cell(want), 99);
        check.due(what + ", the cell 256 away", store.cell(want ^ 256), other);
        check.due(what + ", wrote", store.wrote(0), want);

        ReplayDesk plus = desk(PLUS_1, m, i, high, x, y, u);
        plus.poke(want, 50);
        plus.run(1);
        check.due(what + ", plus 1", plus.cell(want), 51);
        check.due(what + ", plus 1 wrote", plus.wrote(0), want);
        jumps(what, m, i, high, x, y, u, want);
    }

    private void jumps(String what, int m, int i, int high, int x, int y, int u, int want) {
        ReplayDesk jump = desk(JUMP, m, i, high, x, y, u);
        jump.run(1);
        check.due(what + ", jump", jump.register(Check.PC), want);
        ReplayDesk call = desk(CALL, m, i, high, x, y, u);
        call.run(1);
        check.due(what + ", call", call.register(Check.PC), want);
    }

    /** "of an ADDRESS the lowest nine bits count": every byte behind i. */
    private void ofAnAddressTheLowestNineBitsCount() {
        for (int high = 0; high < 256; high++) {
            int page = high % 2 == 0 ? 0 : 256;
            place(3, 7, high, 0, 0, -1, page + 7);
            place(4, 7, high, 5, 0, -1, page + 12);
            place(5, 7, high, 0, 6, -1, page + 13);
            place(6, 10, 0, 0, 7, 20 + 256 * high, page + 27);
        }
        place(3, 255, 0, 0, 0, -1, 255);
        place(3, 0, 1, 0, 0, -1, 256);
        place(3, 255, 1, 0, 0, -1, 511);
        place(3, 0, 2, 0, 0, -1, 0);
        place(3, 255, 255, 0, 0, -1, 511);
    }

    /** "4 cell w + X", "5 cell w + Y": over the pages' ends. */
    private void wPlusXAndWPlusY() {
        int[][] due = {
            {255, 0, 0, 255}, {255, 0, 1, 256}, {0, 0, 255, 255}, {255, 0, 255, 510}, {0, 1, 255, 511},
            {255, 1, 0, 511}, {255, 1, 1, 0}, {255, 1, 255, 254}, {1, 1, 255, 0},
            {255, 255, 0, 511}, {255, 255, 1, 0}, {255, 255, 255, 254}
        };
        for (int[] d : due) {
            place(4, d[0], d[1], d[2], 77, -1, d[3]);
            place(5, d[0], d[1], 77, d[2], -1, d[3]);
        }
    }

    /** "6 cell u + Y": over the pages' ends. */
    private void uPlusY() {
        int[][] due = {
            {255, 0, 255}, {255, 1, 256}, {511, 0, 511}, {511, 1, 0}, {511, 255, 254}, {256, 255, 511}, {257, 255, 0},
            {65535, 0, 511}, {65535, 1, 0}, {65535, 255, 254}
        };
        for (int[] d : due) {
            place(6, 10, 0, 77, d[1], d[0], d[2]);
        }
    }

    /** "u being cell i + 256 * cell (i + 1) & 255": behind cell 255 stands cell 0. */
    private void theSecondByteOfUIsInTheFirstPage() {
        place(6, 254, 0, 0, 5, 256 + 20, 281);
        place(6, 255, 0, 0, 5, 256 + 20, 281);
        ReplayDesk desk = desk(JUMP, 6, 255, 0, 0, 0, 20);
        desk.poke(256, 1);
        desk.run(1);
        check.due("cell 256 is no part of u", desk.register(Check.PC), 20);
    }

    /** "2 cell (i + X) & 255". */
    private void iPlusXStaysInTheFirstPage() {
        int[][] due = {{0, 0, 0}, {0, 255, 255}, {255, 0, 255}, {254, 1, 255}, {255, 1, 0}, {128, 128, 0}, {255, 255, 254}};
        for (int[] d : due) {
            place(2, d[0], 1, d[1], 77, -1, d[2]);
        }
    }

    /** "1 cell i": always one of the first 256, whatever stands behind. */
    private void cellI() {
        place(1, 0, 1, 77, 77, -1, 0);
        place(1, 255, 1, 77, 77, -1, 255);
    }

    /** "0 the cell behind b itself": behind cell 511 stands cell 0. */
    private void theCellBehindTheLast() {
        ReplayDesk load = Check.deskAt(511, Check.code(LOAD, 0), 123);
        load.run(1);
        check.due("load of cell 0 from 511", load.register(Check.A), 123);
        check.due("PC behind it", load.register(Check.PC), 1);
        ReplayDesk plus = Check.deskAt(511, Check.code(PLUS_1, 0), 50);
        plus.run(1);
        check.due("plus 1 in cell 0 from 511", plus.cell(0), 51);
        check.due("wrote", plus.wrote(0), 0);
        ReplayDesk store = Check.deskAt(510, Check.code(STORE, 0), 50);
        store.set(Check.A, 99);
        store.run(1);
        check.due("store in cell 511 from 510", store.cell(511), 99);
        check.due("wrote", store.wrote(0), 511);
        check.due("PC behind it", store.register(Check.PC), 0);
    }

    /** "i is the cell behind it, w = i + 256 * the cell behind that": both may stand beyond the end. */
    private void instructionsOverTheEnd() {
        for (int from = 509; from < 512; from++) {
            ReplayDesk wide = Check.deskAt(from, Check.code(LOAD, 3), 44, 1);
            wide.poke(300, 81);
            wide.run(1);
            check.due("cell w from " + from, wide.register(Check.A), 81);
            check.due("PC behind it", wide.register(Check.PC), from - 509);
            ReplayDesk near = Check.deskAt(from, Check.code(LOAD, 1), 44);
            near.poke(44, 82);
            near.run(1);
            check.due("cell i from " + from, near.register(Check.A), 82);
            check.due("PC behind it", near.register(Check.PC), (from + 2) % 512);
        }
    }

    /** "Bytes wrap at 256, PC at 512": each length, from the last cells. */
    private void pcWrapsAt512() {
        int[] lengths = {2, 2, 2, 3, 3, 3, 2, 1};
        for (int from = 509; from < 512; from++) {
            for (int m = 0; m < 8; m++) {
                for (int op = 0; op < 32; op++) {
                    boolean jumps = (op == 21 || op == 22) && m >= 1 && m <= 6 || op == 23 && m == 0;
                    int length = op < 23 ? lengths[m] : op == 26 ? 2 : 1;
                    ReplayDesk desk = Check.deskAt(from, Check.code(op, m), 0, 0);
                    desk.run(1);
                    if (!jumps) {
                        String what = "PC behind op " + op + ", m " + m + " at " + from;
                        check.due(what, desk.register(Check.PC), (from + length) % 512);
                    }
                }
            }
        }
    }

    /** "PC becomes PC + i, i taken as -128 .. 127", and PC wraps at both ends. */
    private void branchesTakeIAsMinus128To127() {
        int whereNIsNot = Check.code(26, 0);
        int[] froms = {0, 1, 100, 126, 255, 256, 383, 384, 509, 510, 511};
        for (int from : froms) {
            for (int distance = -128; distance <= 127; distance++) {
                ReplayDesk desk = Check.deskAt(from, whereNIsNot, distance);
                desk.run(1);
                int due = Math.floorMod(from + 2 + distance, 512);
                check.due("branch by " + distance + " from " + from, desk.register(Check.PC), due);
            }
        }
    }

    /** "takes a byte l and a byte h: PC = l + 256 h", and PC wraps at 512. */
    private void returnsTakeNineBits() {
        for (int high = 0; high < 256; high++) {
            ReplayDesk desk = Check.deskWith(Check.code(23, 0));
            desk.set(Check.S, 100);
            desk.poke(256 + 101, 255);
            desk.poke(256 + 102, high);
            desk.run(1);
            check.due("return to page " + high, desk.register(Check.PC), high % 2 == 0 ? 255 : 511);
        }
    }
}
