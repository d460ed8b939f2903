import java.util.Random;

/** Runs of 512 calls beside PlainDesk; the seeds are fixed, so every run of the test is the same. */
public final class RandomRunsTest {
    private static final int RUNS = 3000;
    private static final int CALLS = 512;

    public static void main(String[] args) {
        Check check = new Check();
        for (int seed = 0; seed < RUNS; seed++) {
            oneRun(check, seed);
        }
        check.finish();
    }

    private static void oneRun(Check check, int seed) {
        Random random = new Random(seed);
        ReplayDesk desk = new ReplayDesk();
        PlainDesk plain = new PlainDesk();
        int prepared = seed % 4 == 0 ? 0 : 60 + random.nextInt(140);
        for (int call = 0; call < CALLS; call++) {
            int kind = call < prepared ? 0 : random.nextInt(40);
            int last = plain.last();
            int got = call(desk, null, kind, last, new Random(seed * 1000L + call));
            int want = call(null, plain, kind, last, new Random(seed * 1000L + call));
            check.due("run " + seed + ", call " + call + " of kind " + kind, got, want);
        }
    }

    private static int number(boolean answer) {
        return answer ? 1 : 0;
    }

    /** An address near where programs and stacks are, or any, or none. */
    private static int address(Random random) {
        int kind = random.nextInt(20);
        if (kind == 0) {
            return random.nextInt();
        }
        if (kind == 1) {
            return random.nextBoolean() ? -1 : 512;
        }
        return kind < 12 ? random.nextInt(64) : kind < 15 ? 480 + random.nextInt(32) : random.nextInt(512);
    }

    private static int value(Random random) {
        return random.nextInt(8) == 0 ? random.nextInt() : random.nextInt(256);
    }

    private static int code(Random random) {
        int kind = random.nextInt(10);
        if (kind == 0) {
            return Check.INPUT + random.nextInt(2);
        }
        return kind == 1 ? Check.code(22, random.nextInt(8)) : random.nextInt(256);
    }

    private static int upTo(Random random, int most) {
        return random.nextInt(12) == 0 ? random.nextInt() : random.nextInt(most + 4) - 2;
    }

    private static int call(ReplayDesk desk, PlainDesk plain, int kind, int last, Random random) {
        boolean d = desk != null;
        int a = address(random);
        int v = value(random);
        boolean on = random.nextInt(3) != 0;
        int steps = random.nextInt(3) == 0 ? upTo(random, 302) : upTo(random, 12);
        int k = upTo(random, 8);
        int code = code(random);
        int t = upTo(random, last);
        switch (kind) {
            case 0: return number(d ? desk.poke(a, code) : plain.poke(a, code));
            case 1: return number(d ? desk.set(k, v) : plain.set(k, v));
            case 2: return number(d ? desk.feed(v) : plain.feed(v));
            case 3: return number(d ? desk.set(6, 0) : plain.set(6, 0));
            case 4: return number(d ? desk.stop(a, on) : plain.stop(a, on));
            case 5: return number(d ? desk.watch(a, on) : plain.watch(a, on));
            case 6: return d ? desk.time() : plain.time();
            case 7: return d ? desk.last() : plain.last();
            case 8: case 9: return d ? desk.waiting() : plain.waiting();
            case 10: case 11: return d ? desk.puts() : plain.puts();
            case 12: case 13: return d ? desk.output(k) : plain.output(k);
            case 14: case 15: case 16: return d ? desk.wrote(t) : plain.wrote(t);
            case 17: case 18: case 19: return d ? desk.seek() : plain.seek();
            case 20: case 21: case 22: case 23: return number(d ? desk.go(t) : plain.go(t));
            case 24: case 25: case 26: case 27: case 28: return d ? desk.cell(a) : plain.cell(a);
            case 29: case 30: case 31: case 32: case 33: return d ? desk.register(k) : plain.register(k);
            default: return d ? desk.run(steps) : plain.run(steps);
        }
    }
}
