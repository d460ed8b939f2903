public final class Promise01NewObjectTest {
    public static void main(String[] args) {
        Check check = new Check();
        ReplayDesk desk = new ReplayDesk();
        check.dueRegisters("new", desk, 0, 0, 0, 255, 0, 0, 0);
        check.due("time", desk.time(), 0);
        check.due("last", desk.last(), 0);
        check.due("waiting", desk.waiting(), 0);
        check.due("puts", desk.puts(), 0);
        for (int k = 0; k < 8; k++) {
            check.due("output(" + k + ")", desk.output(k), -1);
        }
        check.due("wrote(0)", desk.wrote(0), -1);
        check.due("seek", desk.seek(), -1);
        hasEmptyCells(check);
        hasNoMarks(check);
        canBeGoneBackTo(check);
        isApartFromOthers(check);
        check.finish();
    }

    private static void hasEmptyCells(Check check) {
        ReplayDesk desk = new ReplayDesk();
        for (int a = 0; a < 512; a++) {
            check.due("new: cell(" + a + ")", desk.cell(a), 0);
        }
    }

    private static void hasNoMarks(Check check) {
        ReplayDesk stops = new ReplayDesk();
        ReplayDesk watches = new ReplayDesk();
        for (int a = 0; a < 512; a++) {
            check.due("stop(" + a + ", false)", stops.stop(a, false), false);
            check.due("watch(" + a + ", false)", watches.watch(a, false), false);
        }
    }

    private static void canBeGoneBackTo(Check check) {
        ReplayDesk desk = new ReplayDesk();
        desk.run(1);
        check.due("go(0)", desk.go(0), true);
        check.dueRegisters("back at the first moment", desk, 0, 0, 0, 255, 0, 0, 0);
    }

    private static void isApartFromOthers(Check check) {
        ReplayDesk one = new ReplayDesk();
        one.poke(3, 4);
        one.set(Check.A, 5);
        one.feed(6);
        one.stop(7, true);
        ReplayDesk other = new ReplayDesk();
        check.due("cell of another", other.cell(3), 0);
        check.due("A of another", other.register(Check.A), 0);
        check.due("inputs of another", other.waiting(), 0);
        check.due("stop of another", other.stop(7, false), false);
    }
}
