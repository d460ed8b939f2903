public final class Promise08And09TimeTest {
    public static void main(String[] args) {
        Check check = new Check();
        ReplayDesk desk = new ReplayDesk();
        due(check, desk, 0, 0);
        desk.run(1);
        due(check, desk, 1, 1);
        desk.run(6);
        due(check, desk, 7, 7);
        desk.go(3);
        due(check, desk, 3, 7);
        desk.run(2);
        due(check, desk, 5, 7);
        desk.run(4);
        due(check, desk, 9, 9);
        desk.stop(8, true);
        desk.seek();
        due(check, desk, 4, 9);
        desk.run(300);
        due(check, desk, 260, 260);
        desk.run(300);
        due(check, desk, 300, 300);
        desk.watch(8, true);
        desk.poke(512, 1);
        desk.set(7, 1);
        due(check, desk, 300, 300);
        desk.go(299);
        due(check, desk, 299, 300);
        desk.feed(1);
        due(check, desk, 0, 0);
        check.finish();
    }

    private static void due(Check check, ReplayDesk desk, int time, int last) {
        check.due("time", desk.time(), time);
        check.due("last", desk.last(), last);
    }
}
