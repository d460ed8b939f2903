public final class Promise14WaitingTest {
    public static void main(String[] args) {
        Check check = new Check();
        ReplayDesk desk = Check.deskWith(Check.INPUT, Check.NOTHING, Check.INPUT, Check.INPUT);
        desk.feed(5);
        desk.feed(6);
        int[] due = {2, 1, 1, 0, 0};
        check.due("waiting at first", desk.waiting(), 2);
        for (int t = 1; t <= 4; t++) {
            desk.run(1);
            check.due("waiting at " + t, desk.waiting(), due[t]);
        }
        for (int t = 4; t >= 0; t--) {
            desk.go(t);
            check.due("waiting back at " + t, desk.waiting(), due[t]);
        }
        desk.go(1);
        desk.poke(100, 1);
        check.due("waiting after the history began anew", desk.waiting(), 1);
        desk.run(2);
        check.due("the input that waited", desk.register(Check.A), 6);
        for (int k = 0; k < 41; k++) {
            desk.feed(k);
        }
        check.due("waiting, full", desk.waiting(), 40);
        check.finish();
    }
}
