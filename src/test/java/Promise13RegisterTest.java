public final class Promise13RegisterTest {
    public static void main(String[] args) {
        Check check = new Check();
        ReplayDesk desk = new ReplayDesk();
        int[] values = {11, 22, 33, 44, 65, 310, 1};
        for (int k = 0; k < 7; k++) {
            desk.set(k, values[k]);
        }
        check.dueRegisters("as set", desk, values);
        int[] wrong = {-1, 7, 8, Integer.MIN_VALUE, Integer.MAX_VALUE};
        for (int k : wrong) {
            check.due("register(" + k + ")", desk.register(k), -1);
        }
        desk.feed(1);
        desk.feed(2);
        check.due("register(7) with inputs", desk.register(7), -1);
        check.due("register(8) with inputs", desk.register(8), -1);
        followsTheMoment(check);
        check.finish();
    }

    private static void followsTheMoment(Check check) {
        ReplayDesk desk = Check.deskWith(Check.code(0, 0), 0, Check.code(1, 0), 200, Check.code(25, 1),
            Check.code(25, 3), Check.code(23, 1), Check.HALT);
        desk.run(9);
        check.dueRegisters("moment 6", desk, 0, 200, 255, 254, 129, 8, 1);
        desk.go(5);
        check.dueRegisters("moment 5", desk, 0, 200, 255, 254, 129, 7, 0);
        desk.go(3);
        check.dueRegisters("moment 3", desk, 0, 200, 255, 255, 128, 5, 0);
        desk.go(1);
        check.dueRegisters("moment 1", desk, 0, 0, 0, 255, 2, 2, 0);
        desk.go(0);
        check.dueRegisters("moment 0", desk, 0, 0, 0, 255, 0, 0, 0);
    }
}
