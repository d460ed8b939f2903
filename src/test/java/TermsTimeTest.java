/** The paragraph on time: its two ends, the step that cannot be made, and the step that was made before. */
public final class TermsTimeTest {
    private static final int JUMP = Check.code(21, 1);

    private final Check check = new Check();

    public static void main(String[] args) {
        TermsTimeTest test = new TermsTimeTest();
        test.timeIsFrom0ToLast();
        test.lastIsAtMost300();
        test.aStepAtMoment300ChangesNothing();
        test.aHaltedMachineMakesNoNewMoment();
        test.theStepThatHaltsIsAMoment();
        test.theStepToMoment300MayHalt();
        test.beforeTheLastAStepOnlyGoesOn();
        test.oldStepsAndNewOnesInOneRun();
        test.momentsHaveTheirInputsAndOutputs();
        test.moment0IsThePresentWhenTheHistoryBegan();
        test.check.finish();
    }

    private void dueTime(String what, ReplayDesk desk, int time, int last) {
        check.due(what + ": time", desk.time(), time);
        check.due(what + ": last", desk.last(), last);
    }

    /** "TIME is a number from 0 to LAST". */
    private void timeIsFrom0ToLast() {
        ReplayDesk desk = new ReplayDesk();
        check.due("go(-1) at first", desk.go(-1), false);
        check.due("go(1) at first", desk.go(1), false);
        check.due("go(0) at first", desk.go(0), true);
        dueTime("at first", desk, 0, 0);
        desk.run(2);
        check.due("go(-1)", desk.go(-1), false);
        check.due("go(3)", desk.go(3), false);
        dueTime("after two steps", desk, 2, 2);
        check.due("go(0)", desk.go(0), true);
        dueTime("back at 0", desk, 0, 2);
        check.due("go(2)", desk.go(2), true);
        dueTime("at the last", desk, 2, 2);
    }

    /** "at most 300". */
    private void lastIsAtMost300() {
        ReplayDesk desk = new ReplayDesk();
        check.due("run(299)", desk.run(299), 299);
        dueTime("after 299 steps", desk, 299, 299);
        check.due("run(2) at 299", desk.run(2), 1);
        dueTime("at 300", desk, 300, 300);
        check.due("run(1) at 300", desk.run(1), 0);
        check.due("run(300) at 300", desk.run(300), 0);
        dueTime("still at 300", desk, 300, 300);
        check.due("go(301)", desk.go(301), false);
        check.due("go(300)", desk.go(300), true);
        desk.go(299);
        check.due("run(2) at 299 again", desk.run(2), 1);
        dueTime("at 300 again", desk, 300, 300);
        desk.go(0);
        check.due("run(300) over old moments", desk.run(300), 300);
        dueTime("at 300 once more", desk, 300, 300);
    }

    /** "if the machine is not halted and last is not 300". */
    private void aStepAtMoment300ChangesNothing() {
        int n = Check.NOTHING;
        ReplayDesk desk = Check.deskWith(Check.INPUT, Check.PUT_OUT, Check.code(23, 1), n, n, n, n, n, n, n, n, JUMP, 0);
        for (int k = 0; k < 40; k++) {
            desk.feed(k + 1);
        }
        desk.run(300);
        for (int k = 0; k < 2; k++) {
            // the step from here would take an input
            check.dueRegisters("at 300", desk, 25, 0, 0, 230, 0, 0, 0);
            check.due("puts at 300", desk.puts(), 25);
            check.due("waiting at 300", desk.waiting(), 15);
            check.due("wrote(300)", desk.wrote(300), -1);
            check.due("run(7) at 300", desk.run(7), 0);
        }
        desk.poke(100, 0);
        check.due("run(1) in a new history", desk.run(1), 1);
        check.due("the input it took", desk.register(Check.A), 26);
    }

    private void aHaltedMachineMakesNoNewMoment() {
        ReplayDesk desk = Check.deskWith(Check.X_PLUS_1, Check.HALT, Check.X_PLUS_1);
        desk.set(Check.HALTED, 1);
        check.due("run(1), halted by set", desk.run(1), 0);
        dueTime("halted by set", desk, 0, 0);
        check.due("X", desk.register(Check.X), 0);
        desk.set(Check.HALTED, 0);
        check.due("run(300), awake", desk.run(300), 2);
        dueTime("halted by a step", desk, 2, 2);
        check.due("run(300), halted", desk.run(300), 0);
        dueTime("still halted", desk, 2, 2);
        check.dueRegisters("halted", desk, 0, 1, 0, 255, 0, 2, 1);
        desk.set(Check.HALTED, 0);
        check.due("run(1), awake again", desk.run(1), 1);
        check.due("X", desk.register(Check.X), 2);
    }

    private void theStepThatHaltsIsAMoment() {
        ReplayDesk desk = Check.deskWith(Check.X_PLUS_1, Check.HALT);
        desk.run(300);
        desk.go(1);
        check.due("not halted before the step", desk.register(Check.HALTED), 0);
        check.due("run(300) goes on to the halt", desk.run(300), 1);
        check.due("halted again", desk.register(Check.HALTED), 1);
        desk.go(0);
        check.due("not halted at 0", desk.register(Check.HALTED), 0);
        check.due("run(300) from 0", desk.run(300), 2);
        dueTime("at the halt", desk, 2, 2);
        desk.go(1);
        desk.poke(1, Check.X_PLUS_1);
        check.due("without the halt", desk.run(3), 3);
    }

    private void theStepToMoment300MayHalt() {
        ReplayDesk desk = new ReplayDesk();
        for (int a = 0; a < 299; a++) {
            desk.poke(a, Check.NOTHING);
        }
        desk.poke(299, Check.HALT);
        check.due("run(300) to the halt", desk.run(300), 300);
        check.due("halted at 300", desk.register(Check.HALTED), 1);
        check.due("run(1), halted at 300", desk.run(1), 0);
        desk.go(299);
        check.due("not halted at 299", desk.register(Check.HALTED), 0);
        check.due("run(5) at 299", desk.run(5), 1);
        check.due("halted at 300 again", desk.register(Check.HALTED), 1);
        desk.set(Check.A, 1);
        check.due("run(1), halted still", desk.run(1), 0);
        desk.set(Check.HALTED, 0);
        check.due("run(1), awake", desk.run(1), 1);
    }

    /** "before it, a step only goes on to the next moment, which is as it was". */
    private void beforeTheLastAStepOnlyGoesOn() {
        // the program changes its own second instruction, so that doing it anew from the wrong cells would show
        ReplayDesk desk = Check.deskWith(Check.code(3, 1), 2, Check.X_PLUS_1, Check.INPUT, Check.PUT_OUT, JUMP, 0);
        desk.set(Check.A, Check.code(25, 0));
        desk.feed(Check.code(25, 1));
        desk.feed(Check.code(24, 7));
        desk.run(20);
        int[] y = new int[21];
        int[] puts = new int[21];
        int[] waiting = new int[21];
        for (int t = 0; t <= 20; t++) {
            desk.go(t);
            y[t] = 1000 * desk.register(Check.X) + desk.register(Check.Y);
            puts[t] = desk.puts();
            waiting[t] = desk.waiting();
        }
        desk.go(0);
        for (int t = 1; t <= 20; t++) {
            check.due("run(1) to " + t, desk.run(1), 1);
            dueTime("moment " + t, desk, t, 20);
            check.due("X and Y at " + t, 1000 * desk.register(Check.X) + desk.register(Check.Y), y[t]);
            check.due("puts at " + t, desk.puts(), puts[t]);
            check.due("waiting at " + t, desk.waiting(), waiting[t]);
        }
        check.due("Y was raised and lowered, X lowered", y[20], 255000);
    }

    private void oldStepsAndNewOnesInOneRun() {
        ReplayDesk desk = Check.deskWith(Check.X_PLUS_1, JUMP, 0);
        desk.run(10);
        desk.go(7);
        check.due("run(5) over three old moments", desk.run(5), 5);
        dueTime("behind them", desk, 12, 12);
        check.due("X", desk.register(Check.X), 6);
        desk.go(0);
        check.due("run(12) to the last", desk.run(12), 12);
        dueTime("at the last", desk, 12, 12);
        desk.go(0);
        check.due("run(13) one further", desk.run(13), 13);
        dueTime("one further", desk, 13, 13);
    }

    /** "At moment t the machine is just as it was then, with the inputs that waited and what was put out." */
    private void momentsHaveTheirInputsAndOutputs() {
        ReplayDesk desk = Check.deskWith(Check.INPUT, Check.PUT_OUT, JUMP, 0);
        for (int k = 0; k < 40; k++) {
            desk.feed(100 + k);
        }
        desk.run(130);
        int[] moments = {130, 0, 1, 2, 119, 118, 3, 120, 24, 23, 130, 27};
        for (int t : moments) {
            desk.go(t);
            int taken = Math.min(40, (t + 2) / 3);
            int puts = (t + 1) / 3;
            check.due("waiting at " + t, desk.waiting(), 40 - taken);
            check.due("puts at " + t, desk.puts(), puts);
            for (int k = 0; k < 8; k++) {
                int due = k >= puts ? -1 : puts - k > 40 ? 0 : 99 + puts - k;
                check.due("output(" + k + ") at " + t, desk.output(k), due);
            }
        }
        desk.go(4);
        desk.poke(300, 1);
        desk.set(Check.PC, 0);
        desk.run(1);
        check.due("the input that waited at moment 4 comes next", desk.register(Check.A), 102);
    }

    /** "Moment 0 is the present when the history begins". */
    private void moment0IsThePresentWhenTheHistoryBegan() {
        ReplayDesk desk = Check.deskWith(Check.X_PLUS_1, JUMP, 0);
        desk.run(9);
        desk.go(5);
        desk.set(Check.Y, 77);
        desk.run(6);
        desk.go(0);
        check.dueRegisters("moment 0", desk, 0, 3, 77, 255, 0, 1, 0);
    }
}
