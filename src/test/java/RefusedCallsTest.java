import java.util.function.Consumer;

/** "A call that is refused (false, -1) changes nothing." */
public final class RefusedCallsTest {
    private static final int STORE_X = Check.code(4, 2);
    private static final int PUSH_A = Check.code(23, 1);

    private final Check check = new Check();
    private final Picture before = Picture.of(RefusedCallsTest::desk);
    private final Picture beforeAtFirst = Picture.of(RefusedCallsTest::deskAtFirst);

    public static void main(String[] args) {
        RefusedCallsTest test = new RefusedCallsTest();
        test.notAnAddress();
        test.noRegister();
        test.noRoom();
        test.noMoment();
        test.noNumberOfSteps();
        test.noOutput();
        test.noMetMoment();
        test.check.finish();
    }

    /** At moment 5 of 11, with 40 inputs, 4 stops, 4 watches and an output, and more to come. */
    private static ReplayDesk desk() {
        ReplayDesk desk = Check.deskWith(Check.X_PLUS_1, STORE_X, 100, Check.code(24, 1), Check.PUT_OUT, PUSH_A,
            Check.X_PLUS_1, STORE_X, 100, Check.PUT_OUT, Check.INPUT, Check.INPUT, Check.PUT_OUT, Check.HALT);
        for (int k = 0; k < 40; k++) {
            desk.feed(60 + k);
        }
        for (int a = 400; a < 404; a++) {
            desk.stop(a, true);
            desk.watch(a, true);
        }
        desk.run(11);
        desk.go(5);
        return desk;
    }

    /** The same, but at the first moment of a new history. */
    private static ReplayDesk deskAtFirst() {
        ReplayDesk desk = desk();
        desk.set(Check.Y, 1);
        return desk;
    }

    private void changesNothing(String call, Consumer<ReplayDesk> caller) {
        Picture after = Picture.of(() -> {
            ReplayDesk desk = desk();
            caller.accept(desk);
            return desk;
        });
        Picture.dueSame(check, "after " + call, after, before);
        Picture afterAtFirst = Picture.of(() -> {
            ReplayDesk desk = deskAtFirst();
            caller.accept(desk);
            return desk;
        });
        Picture.dueSame(check, "after " + call + " at first", afterAtFirst, beforeAtFirst);
    }

    private void notAnAddress() {
        int[] wrong = {-1, 512, 513, 1024, Integer.MIN_VALUE, Integer.MAX_VALUE};
        for (int a : wrong) {
            changesNothing("poke " + a, d -> check.due("poke " + a, d.poke(a, 9), false));
            changesNothing("cell " + a, d -> check.due("cell " + a, d.cell(a), -1));
            changesNothing("stop " + a, d -> check.due("stop " + a, d.stop(a, true), false));
            changesNothing("stop off " + a, d -> check.due("stop off " + a, d.stop(a, false), false));
            changesNothing("watch " + a, d -> check.due("watch " + a, d.watch(a, true), false));
            changesNothing("watch off " + a, d -> check.due("watch off " + a, d.watch(a, false), false));
        }
    }

    private void noRegister() {
        int[] wrong = {-1, 7, 8, 9, Integer.MIN_VALUE, Integer.MAX_VALUE};
        for (int k : wrong) {
            changesNothing("set " + k, d -> check.due("set " + k, d.set(k, 1), false));
            changesNothing("register " + k, d -> check.due("register " + k, d.register(k), -1));
        }
    }

    private void noRoom() {
        changesNothing("feed", d -> check.due("feed of the 41st", d.feed(9), false));
        changesNothing("a fifth stop", d -> check.due("a fifth stop", d.stop(0, true), false));
        changesNothing("a fifth watch", d -> check.due("a fifth watch", d.watch(101, true), false));
        changesNothing("a stop again", d -> check.due("a stop again", d.stop(403, true), false));
        changesNothing("a watch again", d -> check.due("a watch again", d.watch(403, true), false));
        changesNothing("no stop off", d -> check.due("no stop off", d.stop(0, false), false));
        changesNothing("no watch off", d -> check.due("no watch off", d.watch(101, false), false));
    }

    private void noMoment() {
        int[] wrong = {-1, 12, 300, 301, Integer.MIN_VALUE, Integer.MAX_VALUE};
        for (int t : wrong) {
            changesNothing("go " + t, d -> check.due("go " + t, d.go(t), false));
            changesNothing("wrote " + t, d -> check.due("wrote " + t, d.wrote(t), -1));
        }
    }

    private void noNumberOfSteps() {
        int[] none = {-1, 0, 301, 302, Integer.MIN_VALUE, Integer.MAX_VALUE};
        for (int n : none) {
            changesNothing("run " + n, d -> check.due("run " + n, d.run(n), 0));
        }
    }

    private void noOutput() {
        int[] wrong = {-1, 1, 7, 8, 9, Integer.MIN_VALUE, Integer.MAX_VALUE};
        for (int k : wrong) {
            changesNothing("output " + k, d -> check.due("output " + k, d.output(k), -1));
        }
    }

    private void noMetMoment() {
        changesNothing("seek", d -> check.due("seek", d.seek(), -1));
    }
}
