public final class Promise15And16OutputTest {
    public static void main(String[] args) {
        Check check = new Check();
        countsAndShowsTheLatest(check);
        staysWhenTheHistoryBeginsAnew(check);
        forgetsWhatLaterMomentsPutOut(check);
        putsOutAtEveryStep(check);
        putsOutAFullHistoryBehindAnyNumber(check);
        check.finish();
    }

    /** Puts out 1, 2, 3 and so on: X + 1, A = X, put out, jump to 0. */
    private static ReplayDesk counter() {
        return Check.deskWith(Check.X_PLUS_1, Check.code(24, 1), Check.PUT_OUT, Check.code(21, 1), 0);
    }

    private static void due(Check check, String what, ReplayDesk desk, int puts) {
        check.due(what + ": puts", desk.puts(), puts);
        for (int k = 0; k < 8; k++) {
            check.due(what + ": output(" + k + ")", desk.output(k), k < puts ? (puts - k) & 255 : -1);
        }
        int[] wrong = {-1, 8, 9, Integer.MIN_VALUE, Integer.MAX_VALUE};
        for (int k : wrong) {
            check.due(what + ": output(" + k + ")", desk.output(k), -1);
        }
    }

    private static void countsAndShowsTheLatest(Check check) {
        ReplayDesk desk = counter();
        due(check, "at first", desk, 0);
        for (int t = 2; t <= 50; t += 2) {
            desk.run(2);
            due(check, "moment " + t, desk, (t + 1) / 4);
        }
        for (int t = 50; t >= 0; t -= 7) {
            desk.go(t);
            due(check, "back at " + t, desk, (t + 1) / 4);
        }
    }

    private static void staysWhenTheHistoryBeginsAnew(Check check) {
        ReplayDesk desk = counter();
        for (int k = 1; k <= 6; k++) {
            desk.run(4 * k);
            due(check, "before poke " + k, desk, k * (k + 1) / 2);
            desk.poke(100, k);
            due(check, "after poke " + k, desk, k * (k + 1) / 2);
        }
        desk.run(300);
        due(check, "after 300 steps", desk, 21 + 75);
        desk.set(Check.Y, 1);
        due(check, "after set", desk, 21 + 75);
        desk.run(300);
        desk.feed(1);
        desk.run(300);
        due(check, "after 600 steps more", desk, 21 + 225);
        desk.go(0);
        due(check, "back at the feed", desk, 21 + 150);
    }

    private static void forgetsWhatLaterMomentsPutOut(Check check) {
        ReplayDesk desk = counter();
        desk.run(80);
        desk.go(48);
        desk.poke(100, 1);
        due(check, "poke at an earlier moment", desk, 12);
        desk.run(4);
        due(check, "a round later", desk, 13);
    }

    private static ReplayDesk putter() {
        ReplayDesk desk = new ReplayDesk();
        for (int a = 0; a < 300; a++) {
            desk.poke(a, Check.PUT_OUT);
        }
        return desk;
    }

    private static void putsOutAFullHistoryBehindAnyNumber(Check check) {
        for (int first = 0; first <= 20; first++) {
            ReplayDesk desk = putter();
            desk.run(first);
            desk.set(Check.PC, 0);
            desk.set(Check.A, 77);
            desk.run(300);
            check.due("puts behind " + first, desk.puts(), first + 300);
            check.due("output(0) behind " + first, desk.output(0), 77);
            desk.go(0);
            check.due("puts before them, behind " + first, desk.puts(), first);
        }
    }

    private static void putsOutAtEveryStep(Check check) {
        ReplayDesk desk = putter();
        for (int round = 1; round <= 5; round++) {
            desk.set(Check.A, round);
            desk.set(Check.PC, 0);
            check.due("output before a round", desk.output(0), round == 1 ? -1 : round - 1);
            desk.run(300);
            check.due("puts", desk.puts(), 300 * round);
            check.due("output(7)", desk.output(7), round);
            desk.go(3);
            check.due("puts after three", desk.puts(), 300 * (round - 1) + 3);
            check.due("output(2)", desk.output(2), round);
            check.due("output(3)", desk.output(3), round == 1 ? -1 : round - 1);
            check.due("output(7)", desk.output(7), round == 1 ? -1 : round - 1);
            desk.go(300);
        }
    }
}
