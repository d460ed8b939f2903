/** "An object is used for at most 512 calls": the longest uses still answer as due. */
public final class LongUseTest {
    private final Check check = new Check();

    public static void main(String[] args) {
        LongUseTest test = new LongUseTest();
        test.fullHistories();
        test.manyInputs();
        test.wayThereAndBack();
        test.check.finish();
    }

    /** As many bytes as 512 calls can put out, or nearly. */
    private void fullHistories() {
        ReplayDesk desk = Check.deskWith(Check.X_PLUS_1, Check.code(24, 1), Check.PUT_OUT, Check.PUT_OUT,
            Check.PUT_OUT, Check.code(21, 1), 0);
        for (int round = 1; round <= 245; round++) {
            check.due("run(300)", desk.run(300), 300);
            check.due("set", desk.set(Check.Y, round), true);
        }
        check.due("puts", desk.puts(), 245 * 150);
        for (int k = 0; k < 8; k++) {
            check.due("output(" + k + ")", desk.output(k), (245 * 50 - k / 3) & 255);
        }
        check.due("output(8)", desk.output(8), -1);
        check.due("run(300) once more", desk.run(300), 300);
        check.due("go(0)", desk.go(0), true);
        check.due("puts at 0", desk.puts(), 245 * 150);
        check.due("the 512th call", desk.output(7), (245 * 50 - 2) & 255);
    }

    private void manyInputs() {
        ReplayDesk desk = Check.deskWith(Check.INPUT, Check.code(21, 1), 0);
        for (int k = 0; k < 40; k++) {
            desk.feed(k);
        }
        for (int k = 0; k < 117; k++) {
            check.due("feed where 40 wait", desk.feed(255), false);
            desk.run(2);
            check.due("input " + k, desk.register(Check.A), k);
            check.due("feed where 39 wait", desk.feed(40 + k), true);
        }
        check.due("waiting", desk.waiting(), 40);
    }

    private void wayThereAndBack() {
        ReplayDesk desk = Check.deskWith(Check.code(15, 1), 100, Check.code(21, 1), 0);
        desk.run(300);
        for (int k = 0; k < 250; k++) {
            int t = k * 83 % 301;
            desk.go(t);
            check.due("cell(100) at " + t, desk.cell(100), (t + 1) / 2);
        }
    }
}
