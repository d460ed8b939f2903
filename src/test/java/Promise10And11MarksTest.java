public final class Promise10And11MarksTest {
    public static void main(String[] args) {
        Check check = new Check();
        for (int kind = 0; kind < 2; kind++) {
            boolean stops = kind == 0;
            saysWhetherItIsAChange(check, stops);
            holdsFour(check, stops);
            refusesWhatIsNoAddress(check, stops);
            leavesTheHistory(check, stops);
        }
        areApart(check);
        check.finish();
    }

    private static boolean mark(ReplayDesk desk, boolean stops, int a, boolean on) {
        return stops ? desk.stop(a, on) : desk.watch(a, on);
    }

    private static String name(boolean stops) {
        return stops ? "stop" : "watch";
    }

    private static void saysWhetherItIsAChange(Check check, boolean stops) {
        ReplayDesk desk = new ReplayDesk();
        int[] addresses = {0, 255, 511};
        for (int a : addresses) {
            String call = name(stops) + "(" + a + ")";
            check.due(call + " off at first", mark(desk, stops, a, false), false);
            check.due(call + " on", mark(desk, stops, a, true), true);
            check.due(call + " on again", mark(desk, stops, a, true), false);
            check.due(call + " off", mark(desk, stops, a, false), true);
            check.due(call + " off again", mark(desk, stops, a, false), false);
        }
    }

    private static void holdsFour(Check check, boolean stops) {
        ReplayDesk desk = new ReplayDesk();
        for (int a = 10; a < 14; a++) {
            check.due(name(stops) + " " + a, mark(desk, stops, a, true), true);
        }
        check.due("a fifth", mark(desk, stops, 14, true), false);
        check.due("the fifth off", mark(desk, stops, 14, false), false);
        check.due("one of the four again", mark(desk, stops, 12, true), false);
        check.due("one of the four off", mark(desk, stops, 12, false), true);
        check.due("the fifth where there is room", mark(desk, stops, 14, true), true);
        check.due("the one that went", mark(desk, stops, 12, true), false);
        check.due("the others stay", mark(desk, stops, 13, false), true);
    }

    private static void refusesWhatIsNoAddress(Check check, boolean stops) {
        ReplayDesk desk = new ReplayDesk();
        int[] wrong = {-1, 512, 1024, Integer.MIN_VALUE, Integer.MAX_VALUE};
        for (int a : wrong) {
            check.due(name(stops) + "(" + a + ") on", mark(desk, stops, a, true), false);
            check.due(name(stops) + "(" + a + ") off", mark(desk, stops, a, false), false);
        }
        for (int a = 508; a < 512; a++) {
            check.due("there is room for four", mark(desk, stops, a, true), true);
        }
    }

    private static void leavesTheHistory(Check check, boolean stops) {
        ReplayDesk desk = new ReplayDesk();
        desk.run(5);
        desk.go(2);
        mark(desk, stops, 1, true);
        mark(desk, stops, 1, false);
        check.due("time", desk.time(), 2);
        check.due("last", desk.last(), 5);
    }

    private static void areApart(Check check) {
        ReplayDesk desk = Check.deskWith(Check.NOTHING, Check.code(3, 1), 3);
        for (int a = 0; a < 4; a++) {
            check.due("stop " + a, desk.stop(a, true), true);
            check.due("watch " + (3 + a), desk.watch(3 + a, true), true);
        }
        check.due("watch(0) off", desk.watch(0, false), false);
        check.due("stop(6) off", desk.stop(6, false), false);
        desk.stop(3, false);
        desk.run(1);
        check.due("a watch ends no run", desk.run(3), 3);
        for (int a = 0; a < 3; a++) {
            desk.stop(a, false);
        }
        check.due("a watch is no stop", desk.seek(), 1);
        check.due("and a stop that is off is none", desk.seek(), -1);
    }
}
