import java.util.ArrayList;
import java.util.List;
import java.util.function.Consumer;
import java.util.function.Supplier;

/**
 * All that later calls can tell of an object. Each part of it is asked from an object of its own, made in the same
 * way, since asking changes the object, and since a refused call among the questions could hide a change.
 */
final class Trace {
    private final SlabImage x;
    private final List<Long> answers = new ArrayList<>();

    private Trace(SlabImage x) {
        this.x = x;
    }

    static List<List<Long>> of(Supplier<SlabImage> made) {
        return List.of(
                part(made, Trace::store), part(made, Trace::recordsToCome), part(made, Trace::selections),
                part(made, Trace::draft), part(made, Trace::roomInDraft));
    }

    private static List<Long> part(Supplier<SlabImage> made, Consumer<Trace> questions) {
        Trace trace = new Trace(made.get());
        questions.accept(trace);
        return trace.answers;
    }

    private void note(long answer) {
        answers.add(answer);
    }

    private void store() {
        int size = x.size();
        note(size);
        note(x.records());
        if (size == SlabImage.MODE) {
            note(x.seal());
        }
        image();
    }

    private void image() {
        int size = x.size();
        note(size);
        for (int k = 0; 8 * k < size; k++) {
            note(x.eight(k));
        }
    }

    /** A value that was put too far must not show in a record that comes later. */
    private void recordsToCome() {
        note(x.seal());
        for (int v = 4; v >= 0; v--) {
            note(x.put(v, x.records() + 3, 0, 1));
        }
        image();
    }

    /** Sixteen rows of eight cells, each with another value, show which ones are selected. */
    private void selections() {
        Bytes probe = new Bytes().start(16).words(10, 2).name('t').words(0).name('a').words(8).words(0, 0)
                .words(11, 1).name('A').words(2, 0, 1).words(0, 0).words(2, 8, 96);
        for (int k = 0; k < 128; k++) {
            probe.bytes(k);
        }
        note(Bytes.open(x, probe.all()));
        for (int n = 0; n < 65; n++) {
            note(x.getSlab(0, n));
        }
    }

    private void draft() {
        note(x.open());
        image();
    }

    private void roomInDraft() {
        int room = 0;
        for (int k = 0; k < 100 && x.add(0, 8); k++) {
            room += 8;
        }
        for (int k = 0; k < 8 && x.add(0, 1); k++) {
            room++;
        }
        note(room);
    }
}
