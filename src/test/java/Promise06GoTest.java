public final class Promise06GoTest {
    // X + 1, store X in 100 + X, push A, A = X, put A out, input, jump to 0
    private static final int[] LOOP = {
        Check.X_PLUS_1, Check.code(4, 2), 100, Check.code(23, 1), Check.code(24, 1),
        Check.PUT_OUT, Check.INPUT, Check.code(21, 1), 0
    };

    public static void main(String[] args) {
        Check check = new Check();
        restoresEveryMoment(check);
        refusesOthers(check);
        takesBackBothWritesOfACall(check);
        check.finish();
    }

    private static ReplayDesk loopDesk() {
        ReplayDesk desk = Check.deskWith(LOOP);
        for (int k = 0; k < 30; k++) {
            desk.feed(3 * k + 1);
        }
        return desk;
    }

    /** What the loop can change, and some of what it cannot. */
    private static int[] picture(ReplayDesk desk) {
        int[] seen = new int[10 + 50 + 50 + 7 + 2 + 8];
        for (int k = 0; k < 50; k++) {
            seen[k] = desk.cell(100 + k);
            seen[50 + k] = desk.cell(462 + k);
        }
        for (int k = 0; k < 10; k++) {
            seen[100 + k] = desk.cell(k);
        }
        for (int k = 0; k < 7; k++) {
            seen[110 + k] = desk.register(k);
        }
        seen[117] = desk.waiting();
        seen[118] = desk.puts();
        for (int k = 0; k < 8; k++) {
            seen[119 + k] = desk.output(k);
        }
        return seen;
    }

    private static void duePicture(Check check, String what, ReplayDesk desk, int[] want) {
        int[] seen = picture(desk);
        for (int k = 0; k < want.length; k++) {
            check.due(what + ", part " + k, seen[k], want[k]);
        }
    }

    private static void restoresEveryMoment(Check check) {
        for (int t = 0; t <= 300; t++) {
            ReplayDesk straight = loopDesk();
            straight.run(t);
            int[] want = picture(straight);
            ReplayDesk desk = loopDesk();
            desk.run(300);
            for (int k = 1; k <= 2; k++) {
                desk.go((t + 113 * k) % 301);
                check.due("go(" + t + ")", desk.go(t), true);
                check.due("time", desk.time(), t);
                check.due("last", desk.last(), 300);
                duePicture(check, "moment " + t, desk, want);
            }
        }
    }

    private static void refusesOthers(Check check) {
        ReplayDesk desk = loopDesk();
        check.due("go(0) at first", desk.go(0), true);
        check.due("go(1) at first", desk.go(1), false);
        desk.run(20);
        desk.go(7);
        int[] before = picture(desk);
        int[] wrong = {-1, 21, 300, 301, Integer.MIN_VALUE, Integer.MAX_VALUE};
        for (int t : wrong) {
            check.due("go(" + t + ")", desk.go(t), false);
            check.due("time after it", desk.time(), 7);
        }
        duePicture(check, "after the refusals", desk, before);
        check.due("go to the present", desk.go(7), true);
        duePicture(check, "the present", desk, before);
        check.due("go to the last", desk.go(20), true);
    }

    private static void takesBackBothWritesOfACall(Check check) {
        ReplayDesk desk = Check.deskWith(Check.code(22, 1), 40);
        desk.poke(256, 11);
        desk.poke(511, 12);
        desk.set(Check.S, 0);
        desk.run(1);
        check.due("cell(256) after the call", desk.cell(256), 0);
        check.due("cell(511) after the call", desk.cell(511), 2);
        desk.go(0);
        check.due("cell(256) before it", desk.cell(256), 11);
        check.due("cell(511) before it", desk.cell(511), 12);
        check.due("S before it", desk.register(Check.S), 0);
        desk.go(1);
        check.due("cell(256) after it", desk.cell(256), 0);
        check.due("cell(511) after it", desk.cell(511), 2);
        check.due("S after it", desk.register(Check.S), 254);
    }
}
