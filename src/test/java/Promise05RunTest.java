public final class Promise05RunTest {
    public static void main(String[] args) {
        Check check = new Check();
        takesZeroToThreeHundred(check);
        endsWhereTheMachineHalts(check);
        endsAtStops(check);
        goesOnThroughOldMoments(check);
        endsAtMoment300(check);
        check.finish();
    }

    private static void takesZeroToThreeHundred(Check check) {
        ReplayDesk desk = Check.deskWith(Check.NOTHING);
        int[] wrong = {-1, 301, 302, Integer.MIN_VALUE, Integer.MAX_VALUE};
        for (int n : wrong) {
            check.due("run(" + n + ")", desk.run(n), 0);
            check.due("time after it", desk.time(), 0);
        }
        check.due("run(0)", desk.run(0), 0);
        check.due("last after it", desk.last(), 0);
        check.due("run(1)", desk.run(1), 1);
        check.due("PC after it", desk.register(Check.PC), 1);
        check.due("run(299)", desk.run(299), 299);
        check.due("run(300) on a new object", new ReplayDesk().run(300), 300);
    }

    private static void endsWhereTheMachineHalts(Check check) {
        ReplayDesk desk = Check.deskWith(Check.X_PLUS_1, Check.HALT, Check.X_PLUS_1);
        check.due("run(9)", desk.run(9), 2);
        check.dueRegisters("halted", desk, 0, 1, 0, 255, 0, 2, 1);
        check.due("run(9) again", desk.run(9), 0);
        check.due("last", desk.last(), 2);
        desk.go(0);
        check.due("run(9) from the beginning", desk.run(9), 2);
        check.due("halted again", desk.register(Check.HALTED), 1);
    }

    private static void endsAtStops(Check check) {
        ReplayDesk desk = Check.deskWith(Check.X_PLUS_1, Check.X_PLUS_1, Check.X_PLUS_1, Check.HALT);
        desk.stop(0, true);
        desk.stop(2, true);
        check.due("run(9) from a stop", desk.run(9), 2);
        check.due("PC at the stop", desk.register(Check.PC), 2);
        check.due("run(0) at a stop", desk.run(0), 0);
        check.due("run(1) from a stop", desk.run(1), 1);
        check.due("run(9) to the halt", desk.run(9), 1);
        desk.go(0);
        check.due("run(9) over old moments ends there too", desk.run(9), 2);
        check.due("run(1) over an old moment", desk.run(1), 1);
        desk.go(0);
        check.due("run(2) that ends just there", desk.run(2), 2);
        desk.go(1);
        check.due("run(9) with the stop behind its first step", desk.run(9), 1);
        desk.stop(3, true);
        check.due("run(9) from a stop to the next cell's", desk.run(9), 1);
    }

    private static void goesOnThroughOldMoments(Check check) {
        ReplayDesk desk = Check.deskWith(Check.INPUT, Check.PUT_OUT, Check.code(4, 1), 200, Check.X_PLUS_1);
        desk.set(Check.X, 7);
        desk.feed(5);
        desk.run(3);
        desk.go(0);
        check.due("run(4) over three old steps and a new one", desk.run(4), 4);
        check.due("last", desk.last(), 4);
        check.due("X", desk.register(Check.X), 8);
        check.due("cell(200)", desk.cell(200), 7);
        check.due("puts once", desk.puts(), 1);
        check.due("waiting", desk.waiting(), 0);
    }

    private static void endsAtMoment300(Check check) {
        ReplayDesk desk = new ReplayDesk();
        check.due("run(250)", desk.run(250), 250);
        check.due("run(60)", desk.run(60), 50);
        check.due("run(1) at 300", desk.run(1), 0);
        desk.go(290);
        check.due("run(300) from 290", desk.run(300), 10);
        check.due("time", desk.time(), 300);
        desk.set(Check.A, 0);
        check.due("run(300) after the history began anew", desk.run(300), 300);
    }
}
