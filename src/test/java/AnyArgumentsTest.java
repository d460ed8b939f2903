/** No call throws, whatever its arguments, also long after the 512th call. */
public final class AnyArgumentsTest {
    private static final int[] ARGUMENTS = {
        Integer.MIN_VALUE, Integer.MIN_VALUE + 1, -513, -512, -256, -255, -2, -1, 0, 1, 2, 3, 4, 5, 6, 7, 8, 9,
        39, 40, 41, 254, 255, 256, 299, 300, 301, 302, 510, 511, 512, 513, 65536,
        Integer.MAX_VALUE - 1, Integer.MAX_VALUE
    };

    public static void main(String[] args) {
        Check check = new Check();
        ReplayDesk desk = new ReplayDesk();
        for (int round = 0; round < 40; round++) {
            for (int v : ARGUMENTS) {
                callAll(desk, v, round);
            }
        }
        for (int code = 0; code < 256; code++) {
            fillAndRun(check, code);
        }
        check.finish();
    }

    private static void callAll(ReplayDesk desk, int v, int round) {
        for (int a : ARGUMENTS) {
            desk.poke(a, v + round);
            desk.set(a, v);
        }
        desk.feed(v);
        desk.set(Check.HALTED, 0);
        desk.run(300);
        desk.run(v);
        desk.stop(v, round % 2 == 0);
        desk.watch(v, round % 3 == 0);
        desk.go(v);
        desk.cell(v);
        desk.register(v);
        desk.output(v);
        desk.wrote(v);
        desk.seek();
        desk.time();
        desk.last();
        desk.waiting();
        desk.puts();
    }

    private static void fillAndRun(Check check, int code) {
        ReplayDesk desk = new ReplayDesk();
        for (int a = 0; a < 500; a++) {
            desk.poke(a, code);
        }
        desk.set(Check.X, 255);
        desk.set(Check.Y, 255);
        desk.set(Check.PC, 511);
        int due = code == Check.HALT ? 2 : 300;
        int made = desk.run(300);
        // a write may turn an instruction into the one that halts
        check.due("run on cells " + code, made == due || desk.register(Check.HALTED) == 1, true);
        check.due("time on cells " + code, desk.time(), made);
        check.due("go(0) on cells " + code, desk.go(0), true);
        check.due("PC at 0 on cells " + code, desk.register(Check.PC), 511);
    }
}
