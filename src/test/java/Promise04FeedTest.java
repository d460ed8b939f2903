public final class Promise04FeedTest {
    public static void main(String[] args) {
        Check check = new Check();
        keepsTheOrder(check);
        holdsForty(check);
        feedsAtAnEarlierMoment(check);
        beginsTheHistoryAnew(check);
        refillsOftenEnough(check);
        check.finish();
    }

    private static void keepsTheOrder(Check check) {
        ReplayDesk desk = new ReplayDesk();
        int[] fed = {3, 255, 256 + 9, -3, 256, 0, -256, -1, Integer.MIN_VALUE, Integer.MAX_VALUE};
        int[] due = {3, 255, 9, 253, 0, 0, 0, 255, 0, 255};
        for (int k = 0; k < fed.length; k++) {
            check.due("feed(" + fed[k] + ")", desk.feed(fed[k]), true);
            check.due("waiting", desk.waiting(), k + 1);
        }
        Check.write(desk, 0, Check.INPUT, Check.code(21, 1), 0);
        for (int k = 0; k < fed.length; k++) {
            desk.run(2);
            check.due("input " + k, desk.register(Check.A), due[k]);
        }
    }

    private static void holdsForty(Check check) {
        ReplayDesk desk = Check.deskWith(Check.INPUT, Check.INPUT);
        for (int k = 0; k < 40; k++) {
            check.due("feed " + k, desk.feed(k), true);
        }
        check.due("waiting", desk.waiting(), 40);
        check.due("feed of the 41st", desk.feed(99), false);
        check.due("feed of the 41st again", desk.feed(99), false);
        check.due("waiting", desk.waiting(), 40);
        desk.run(1);
        check.due("feed where one was taken", desk.feed(40), true);
        check.due("waiting", desk.waiting(), 40);
        desk.set(Check.PC, 0);
        for (int k = 0; k < 40; k++) {
            desk.set(Check.PC, 0);
            desk.run(1);
            check.due("input " + k, desk.register(Check.A), k + 1);
        }
        check.due("waiting at the end", desk.waiting(), 0);
    }

    private static void feedsAtAnEarlierMoment(Check check) {
        ReplayDesk desk = Check.deskWith(Check.INPUT, Check.INPUT, Check.INPUT);
        for (int k = 1; k <= 40; k++) {
            desk.feed(k);
        }
        desk.run(2);
        desk.go(0);
        check.due("feed where 40 wait again", desk.feed(77), false);
        check.due("last after the refusal", desk.last(), 2);
        desk.go(1);
        check.due("feed where 39 wait again", desk.feed(77), true);
        check.due("last after it", desk.last(), 0);
        check.due("waiting after it", desk.waiting(), 40);
        desk.run(1);
        check.due("the second input comes next", desk.register(Check.A), 2);
    }

    private static void beginsTheHistoryAnew(Check check) {
        ReplayDesk desk = new ReplayDesk();
        desk.run(4);
        desk.go(2);
        check.due("feed", desk.feed(0), true);
        check.due("time", desk.time(), 0);
        check.due("last", desk.last(), 0);
        check.due("PC", desk.register(Check.PC), 4);
    }

    private static void refillsOftenEnough(Check check) {
        ReplayDesk desk = Check.deskWith(Check.INPUT, Check.code(21, 1), 0);
        desk.feed(200);
        for (int k = 0; k < 120; k++) {
            desk.feed(k);
            desk.run(2);
            check.due("input " + k, desk.register(Check.A), k == 0 ? 200 : k - 1);
            check.due("waiting", desk.waiting(), 1);
        }
    }
}
