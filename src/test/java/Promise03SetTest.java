public final class Promise03SetTest {
    public static void main(String[] args) {
        Check check = new Check();
        ReplayDesk desk = new ReplayDesk();
        for (int k = 0; k <= 3; k++) {
            setAndSee(check, desk, k, 10 + k, 10 + k);
            setAndSee(check, desk, k, 255, 255);
            setAndSee(check, desk, k, 256 + 5 + k, 5 + k);
            setAndSee(check, desk, k, -2 - k, 254 - k);
        }
        setAndSee(check, desk, Check.P, -1, 195);
        setAndSee(check, desk, Check.P, 60, 0);
        setAndSee(check, desk, Check.P, 256 + 66, 66);
        setAndSee(check, desk, Check.PC, 511, 511);
        setAndSee(check, desk, Check.PC, 512 + 300, 300);
        setAndSee(check, desk, Check.PC, -1, 511);
        setAndSee(check, desk, Check.HALTED, 1, 1);
        setAndSee(check, desk, Check.HALTED, 0, 0);
        setAndSee(check, desk, Check.HALTED, 256, 1);
        setAndSee(check, desk, Check.HALTED, Integer.MIN_VALUE, 1);
        check.dueRegisters("after all", desk, 254, 253, 252, 251, 66, 511, 1);
        keepsTheBitsOfTheRegister(check);
        refusesOthers(check);
        haltsAndWakes(check);
        beginsTheHistoryAnew(check);
        check.finish();
    }

    private static void setAndSee(Check check, ReplayDesk desk, int k, int v, int want) {
        String call = "set(" + k + ", " + v + ")";
        check.due(call, desk.set(k, v), true);
        check.due(call + ", register", desk.register(k), want);
    }

    private static void keepsTheBitsOfTheRegister(Check check) {
        int[] edges = {-513, -512, -257, -256, -1, 0, 1, 255, 256, 511, 512, 513, Integer.MIN_VALUE, Integer.MAX_VALUE};
        int[] bits = {255, 255, 255, 255, 128 + 64 + 2 + 1, 511};
        for (int k = 0; k < bits.length; k++) {
            ReplayDesk desk = new ReplayDesk();
            for (int v : edges) {
                setAndSee(check, desk, k, v, v & bits[k]);
            }
            for (int bit = 0; bit < 32; bit++) {
                setAndSee(check, desk, k, 1 << bit, 1 << bit & bits[k]);
            }
            int[] due = {0, 0, 0, 255, 0, 0, 0};
            due[k] = 0;
            check.dueRegisters("the others after set(" + k + ")", desk, due);
        }
        ReplayDesk desk = new ReplayDesk();
        for (int v : edges) {
            setAndSee(check, desk, Check.HALTED, v, v == 0 ? 0 : 1);
        }
    }

    private static void refusesOthers(Check check) {
        ReplayDesk desk = new ReplayDesk();
        desk.run(3);
        int[] wrong = {-1, 7, 8, 255, Integer.MIN_VALUE, Integer.MAX_VALUE};
        for (int k : wrong) {
            check.due("set(" + k + ", 1)", desk.set(k, 1), false);
        }
        check.due("last after refusals", desk.last(), 3);
        check.due("waiting after refusals", desk.waiting(), 0);
        check.due("puts after refusals", desk.puts(), 0);
    }

    private static void haltsAndWakes(Check check) {
        ReplayDesk desk = new ReplayDesk();
        desk.set(Check.HALTED, 5);
        check.due("run, halted", desk.run(4), 0);
        desk.set(Check.HALTED, 0);
        check.due("run, awake", desk.run(4), 4);
    }

    private static void beginsTheHistoryAnew(Check check) {
        for (int k = 0; k <= 6; k++) {
            ReplayDesk desk = new ReplayDesk();
            desk.run(5);
            desk.go(3);
            check.due("set(" + k + ") of the same value", desk.set(k, desk.register(k)), true);
            check.due("time after set(" + k + ")", desk.time(), 0);
            check.due("last after set(" + k + ")", desk.last(), 0);
            check.due("PC after set(" + k + ")", desk.register(Check.PC), 6);
        }
    }
}
