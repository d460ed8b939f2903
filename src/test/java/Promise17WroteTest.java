public final class Promise17WroteTest {
    public static void main(String[] args) {
        Check check = new Check();
        ReplayDesk desk = Check.deskWith(
            Check.code(3, 1), 100,          // 0: writes cell 100, with the same byte
            Check.code(22, 3), 9, 0,        // 1: pushes on 511 and 510
            0, 0, 0, 0,
            Check.code(23, 1),              // 2: pushes on 509
            Check.code(23, 2),              // 3: takes
            Check.code(15, 0), 7,           // 4: writes cell 12, its own second byte
            Check.code(15, 7),              // 5: writes A alone
            Check.code(0, 1), 100,          // 6: reads
            Check.code(11, 3), 100, 1,      // 7: compares
            Check.code(5, 5), 255, 1,       // 8: writes cell 511 + Y
            Check.HALT);                    // 9
        desk.set(Check.Y, 3);
        int[] due = {100, 510, 509, -1, 12, -1, -1, -1, 2, -1};
        for (int t = 0; t < due.length; t++) {
            check.due("wrote(" + t + ") before its step", desk.wrote(t), -1);
            desk.run(1);
            check.due("wrote(" + t + ")", desk.wrote(t), due[t]);
        }
        check.due("last", desk.last(), 10);
        desk.go(0);
        for (int t = 0; t < due.length; t++) {
            check.due("wrote(" + t + ") seen from moment 0", desk.wrote(t), due[t]);
        }
        int[] wrong = {-1, 10, 11, 300, 301, Integer.MIN_VALUE, Integer.MAX_VALUE};
        for (int t : wrong) {
            check.due("wrote(" + t + ")", desk.wrote(t), -1);
        }
        desk.poke(300, 1);
        check.due("wrote(0) after the history began anew", desk.wrote(0), -1);
        writesAtTheLastStep(check);
        wrapsTheStack(check);
        check.finish();
    }

    private static void writesAtTheLastStep(Check check) {
        ReplayDesk desk = Check.deskWith(Check.code(3, 1), 100, Check.code(21, 1), 0);
        desk.run(299);
        check.due("wrote(298)", desk.wrote(298), 100);
        check.due("wrote(299) at 299", desk.wrote(299), -1);
        desk.run(1);
        check.due("wrote(299), a jump", desk.wrote(299), -1);
        desk.set(Check.PC, 2);
        desk.run(300);
        check.due("wrote(299), a store", desk.wrote(299), 100);
        check.due("wrote(300)", desk.wrote(300), -1);
    }

    private static void wrapsTheStack(Check check) {
        ReplayDesk desk = Check.deskWith(Check.code(22, 1), 40);
        desk.set(Check.S, 0);
        desk.run(1);
        check.due("wrote(0) with S 0", desk.wrote(0), 511);
    }
}
