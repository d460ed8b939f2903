import java.util.ArrayList;
import java.util.List;
import java.util.TreeSet;

/**
 * The document written down once more for the tests, in the plainest way: every moment is kept whole.
 * It shares no code with ReplayDesk, so that a slip in one of them shows.
 */
final class PlainDesk {
    private static final class Moment {
        int[] cells = new int[512];
        int a;
        int x;
        int y;
        int s = 255;
        boolean n;
        boolean v;
        boolean z;
        boolean c;
        int pc;
        boolean halted;
        List<Integer> inputs = new ArrayList<>();
        List<Integer> put = new ArrayList<>();
        List<Integer> written = new ArrayList<>(); // by the step that led here

        Moment copy() {
            Moment m = new Moment();
            m.cells = cells.clone();
            m.a = a;
            m.x = x;
            m.y = y;
            m.s = s;
            m.n = n;
            m.v = v;
            m.z = z;
            m.c = c;
            m.pc = pc;
            m.halted = halted;
            m.inputs = new ArrayList<>(inputs);
            m.put = new ArrayList<>(put);
            return m;
        }

        int flags() {
            return (n ? 128 : 0) + (v ? 64 : 0) + (z ? 2 : 0) + (c ? 1 : 0);
        }

        void flags(int p) {
            n = p / 128 % 2 == 1;
            v = p / 64 % 2 == 1;
            z = p / 2 % 2 == 1;
            c = p % 2 == 1;
        }

        int nz(int value) {
            int result = Math.floorMod(value, 256);
            n = result >= 128;
            z = result == 0;
            return result;
        }

        void write(int address, int value) {
            cells[address % 512] = value;
            written.add(address % 512);
        }

        void push(int value) {
            write(256 + s, value);
            s = Math.floorMod(s - 1, 256);
        }

        int take() {
            s = (s + 1) % 256;
            return cells[256 + s];
        }
    }

    private final List<Moment> moments = new ArrayList<>();
    private final TreeSet<Integer> stops = new TreeSet<>();
    private final TreeSet<Integer> watches = new TreeSet<>();
    private int time;

    PlainDesk() {
        moments.add(new Moment());
    }

    private Moment present() {
        return moments.get(time);
    }

    private Moment begun() {
        Moment m = present().copy();
        moments.clear();
        moments.add(m);
        time = 0;
        return m;
    }

    boolean poke(int a, int v) {
        if (a < 0 || a > 511) {
            return false;
        }
        begun().cells[a] = Math.floorMod(v, 256);
        return true;
    }

    boolean set(int k, int v) {
        if (k < 0 || k > 6) {
            return false;
        }
        Moment m = begun();
        int value = Math.floorMod(v, 256);
        switch (k) {
            case 0 -> m.a = value;
            case 1 -> m.x = value;
            case 2 -> m.y = value;
            case 3 -> m.s = value;
            case 4 -> m.flags(value);
            case 5 -> m.pc = Math.floorMod(v, 512);
            default -> m.halted = v != 0;
        }
        return true;
    }

    boolean feed(int v) {
        if (present().inputs.size() == 40) {
            return false;
        }
        begun().inputs.add(Math.floorMod(v, 256));
        return true;
    }

    int run(int n) {
        int made = 0;
        while (n <= 300 && made < n) {
            if (made > 0 && stops.contains(present().pc)) {
                break;
            }
            if (time == last()) {
                if (present().halted || last() == 300) {
                    break;
                }
                moments.add(next(present()));
            }
            time++;
            made++;
        }
        return made;
    }

    boolean go(int t) {
        if (t < 0 || t > last()) {
            return false;
        }
        time = t;
        return true;
    }

    int seek() {
        int found = -1;
        for (int t = 0; t < time; t++) {
            boolean met = stops.contains(moments.get(t).pc);
            for (int w : moments.get(t + 1).written) {
                met = met || watches.contains(w);
            }
            found = met ? t : found;
        }
        time = found == -1 ? time : found;
        return found;
    }

    int time() {
        return time;
    }

    int last() {
        return moments.size() - 1;
    }

    boolean stop(int a, boolean on) {
        return mark(stops, a, on);
    }

    boolean watch(int a, boolean on) {
        return mark(watches, a, on);
    }

    private static boolean mark(TreeSet<Integer> marks, int a, boolean on) {
        if (!on) {
            return marks.remove(a);
        }
        return a >= 0 && a <= 511 && (marks.contains(a) || marks.size() < 4) && marks.add(a);
    }

    int cell(int a) {
        return a < 0 || a > 511 ? -1 : present().cells[a];
    }

    int register(int k) {
        Moment m = present();
        return switch (k) {
            case 0 -> m.a;
            case 1 -> m.x;
            case 2 -> m.y;
            case 3 -> m.s;
            case 4 -> m.flags();
            case 5 -> m.pc;
            case 6 -> m.halted ? 1 : 0;
            default -> -1;
        };
    }

    int waiting() {
        return present().inputs.size();
    }

    int puts() {
        return present().put.size();
    }

    int output(int k) {
        return k < 0 || k > 7 || k >= puts() ? -1 : present().put.get(puts() - 1 - k);
    }

    int wrote(int t) {
        if (t < 0 || t >= last()) {
            return -1;
        }
        List<Integer> written = moments.get(t + 1).written;
        return written.isEmpty() ? -1 : written.get(written.size() - 1);
    }

    private static Moment next(Moment before) {
        Moment m = before.copy();
        int b = m.cells[m.pc];
        int op = b / 8;
        int mode = b % 8;
        int own = (m.pc + 1) % 512;
        int i = m.cells[own];
        int w = i + 256 * m.cells[(m.pc + 2) % 512];
        int u = m.cells[i] + 256 * m.cells[(i + 1) % 256];
        int[] places = {own, i, (i + m.x) % 256, w % 512, (w + m.x) % 512, (w + m.y) % 512, (u + m.y) % 512, -1};
        int place = places[mode];
        int length = op == 26 ? 2 : 1;
        if (op < 23) {
            length = mode == 7 ? 1 : mode >= 3 && mode <= 5 ? 3 : 2;
        }
        m.pc = (m.pc + length) % 512;
        if (op < 21) {
            withPlace(m, op, place);
        } else if (op < 23 && mode >= 1 && mode <= 6) {
            if (op == 22) {
                m.push(m.pc / 256);
                m.push(m.pc % 256);
            }
            m.pc = place;
        } else if (op == 23) {
            op23(m, mode);
        } else if (op == 24 || op == 25) {
            op24And25(m, (op - 24) * 8 + mode);
        } else if (op == 26) {
            boolean[] due = {!m.n, m.n, !m.v, m.v, !m.c, m.c, !m.z, m.z};
            m.pc = due[mode] ? Math.floorMod(m.pc + (byte) i, 512) : m.pc;
        }
        return m;
    }

    private static void withPlace(Moment m, int op, int place) {
        int t = place == -1 ? m.a : m.cells[place];
        boolean c = m.c;
        Integer becomes = null;
        switch (op) {
            case 0 -> m.a = m.nz(t);
            case 1 -> m.x = m.nz(t);
            case 2 -> m.y = m.nz(t);
            case 3 -> becomes = m.a;
            case 4 -> becomes = m.x;
            case 5 -> becomes = m.y;
            case 6 -> add(m, t);
            case 7 -> add(m, 255 - t);
            case 8 -> m.a = m.nz(m.a & t);
            case 9 -> m.a = m.nz(m.a | t);
            case 10 -> m.a = m.nz(m.a ^ t);
            case 11 -> less(m, m.a, t);
            case 12 -> less(m, m.x, t);
            case 13 -> less(m, m.y, t);
            case 14 -> {
                m.n = t >= 128;
                m.v = t / 64 % 2 == 1;
                m.z = (m.a & t) == 0;
            }
            case 15 -> becomes = m.nz(t + 1);
            case 16 -> becomes = m.nz(t - 1);
            case 17 -> becomes = m.nz(t * 2);
            case 18 -> becomes = m.nz(t / 2);
            case 19 -> becomes = m.nz(t * 2 + (c ? 1 : 0));
            default -> becomes = m.nz(t / 2 + (c ? 128 : 0));
        }
        if (op == 17 || op == 19) {
            m.c = t >= 128;
        }
        if (op == 18 || op == 20) {
            m.c = t % 2 == 1;
        }
        if (becomes != null && place == -1) {
            m.a = becomes;
        } else if (becomes != null) {
            m.write(place, becomes);
        }
    }

    private static void add(Moment m, int t) {
        int carry = m.c ? 1 : 0;
        int signed = (byte) m.a + (byte) t + carry;
        m.c = m.a + t + carry > 255;
        m.a = m.nz(m.a + t + carry);
        m.v = signed < -128 || signed > 127;
    }

    private static void less(Moment m, int register, int t) {
        m.nz(register - t);
        m.c = register >= t;
    }

    private static void op23(Moment m, int mode) {
        switch (mode) {
            case 0 -> {
                int l = m.take();
                int h = m.take();
                m.pc = (l + 256 * h) % 512;
            }
            case 1 -> m.push(m.a);
            case 2 -> m.a = m.nz(m.take());
            case 3 -> m.push(m.flags());
            case 4 -> m.flags(m.take());
            case 5 -> m.halted = true;
            case 6 -> {
                m.c = m.inputs.isEmpty();
                m.a = m.nz(m.c ? 0 : m.inputs.remove(0));
            }
            default -> m.put.add(m.a);
        }
    }

    private static void op24And25(Moment m, int number) {
        switch (number) {
            case 0 -> m.x = m.nz(m.a);
            case 1 -> m.a = m.nz(m.x);
            case 2 -> m.y = m.nz(m.a);
            case 3 -> m.a = m.nz(m.y);
            case 4 -> m.x = m.nz(m.s);
            case 5 -> m.s = m.x;
            case 6 -> m.x = m.nz(m.x + 1);
            case 7 -> m.x = m.nz(m.x - 1);
            case 8 -> m.y = m.nz(m.y + 1);
            case 9 -> m.y = m.nz(m.y - 1);
            case 10 -> m.c = false;
            case 11 -> m.c = true;
            case 12 -> m.v = false;
            default -> { }
        }
    }
}
