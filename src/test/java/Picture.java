import java.util.ArrayList;
import java.util.List;
import java.util.function.Supplier;

/**
 * All that can be seen of an object, as a row of answers. An object is used for at most 512 calls, so
 * each part is seen on an object of its own that the same calls have made.
 */
final class Picture {
    private final Supplier<ReplayDesk> maker;
    private final List<String> names = new ArrayList<>();
    private final List<Integer> answers = new ArrayList<>();

    private Picture(Supplier<ReplayDesk> maker) {
        this.maker = maker;
    }

    static Picture of(Supplier<ReplayDesk> maker) {
        Picture picture = new Picture(maker);
        picture.present();
        picture.cells(0);
        picture.cells(256);
        picture.moments();
        picture.nextSteps();
        picture.marks(0);
        picture.marks(128);
        picture.marks(256);
        picture.marks(384);
        picture.seeks();
        return picture;
    }

    static void dueSame(Check check, String what, Picture got, Picture want) {
        check.due(what + ", answers", got.answers.size(), want.answers.size());
        for (int k = 0; k < Math.min(got.answers.size(), want.answers.size()); k++) {
            check.due(what + ", " + want.names.get(k), got.answers.get(k), want.answers.get(k));
        }
    }

    private void see(String name, int answer) {
        names.add(name);
        answers.add(answer);
    }

    private void see(String name, boolean answer) {
        see(name, answer ? 1 : 0);
    }

    private void present() {
        ReplayDesk desk = maker.get();
        see("time", desk.time());
        see("last", desk.last());
        moment("the present", desk);
        for (int t = 0; t < desk.last(); t++) {
            see("wrote(" + t + ")", desk.wrote(t));
        }
    }

    private void moment(String what, ReplayDesk desk) {
        for (int k = 0; k < 7; k++) {
            see(what + ": register(" + k + ")", desk.register(k));
        }
        see(what + ": waiting", desk.waiting());
        see(what + ": puts", desk.puts());
        for (int k = 0; k < 8; k++) {
            see(what + ": output(" + k + ")", desk.output(k));
        }
    }

    private void cells(int from) {
        ReplayDesk desk = maker.get();
        for (int a = from; a < from + 256; a++) {
            see("cell(" + a + ")", desk.cell(a));
        }
    }

    private void moments() {
        ReplayDesk desk = maker.get();
        for (int t = 0; t <= Math.min(desk.last(), 12); t++) {
            desk.go(t);
            moment("moment " + t, desk);
        }
    }

    private void nextSteps() {
        ReplayDesk desk = maker.get();
        for (int k = 1; k <= 12; k++) {
            see(k + " steps on: run", desk.run(1));
            see(k + " steps on: last", desk.last());
            moment(k + " steps on", desk);
        }
    }

    private void marks(int from) {
        ReplayDesk desk = maker.get();
        for (int a = from; a < from + 128; a++) {
            see("stop " + a, desk.stop(a, false));
            see("watch " + a, desk.watch(a, false));
        }
    }

    private void seeks() {
        ReplayDesk desk = maker.get();
        desk.go(desk.last());
        for (int k = 0; k < 5; k++) {
            see("seek from the last", desk.seek());
        }
    }
}
