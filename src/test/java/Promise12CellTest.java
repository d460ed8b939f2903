public final class Promise12CellTest {
    public static void main(String[] args) {
        Check check = new Check();
        ReplayDesk desk = new ReplayDesk();
        int[] wrong = {-1, 512, 513, Integer.MIN_VALUE, Integer.MAX_VALUE};
        for (int a : wrong) {
            check.due("cell(" + a + ")", desk.cell(a), -1);
        }
        int[] addresses = {0, 1, 255, 256, 510, 511};
        for (int a : addresses) {
            desk.poke(a, a + 3);
        }
        for (int a : addresses) {
            check.due("cell(" + a + ")", desk.cell(a), (a + 3) & 255);
        }
        check.due("cell(2)", desk.cell(2), 0);
        followsTheMoment(check);
        check.finish();
    }

    private static void followsTheMoment(Check check) {
        ReplayDesk desk = Check.deskWith(Check.code(15, 1), 50, Check.code(15, 1), 50);
        desk.poke(50, 255);
        desk.run(2);
        check.due("cell(50) after both", desk.cell(50), 1);
        desk.go(1);
        check.due("cell(50) after one", desk.cell(50), 0);
        desk.go(0);
        check.due("cell(50) before", desk.cell(50), 255);
    }
}
