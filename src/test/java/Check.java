import java.util.List;
import java.util.function.Consumer;
import java.util.function.Supplier;
import java.util.function.ToLongFunction;

/** Compares answers with those that are due, and prints each one that differs. */
final class Check {
    private static final long MOST_MILLISECONDS = 120_000;

    private int wrong = 0;
    private int asked = 0;
    private volatile String tested = "nothing";

    Check() {
        Thread watch = new Thread(this::watch);
        watch.setDaemon(true);
        watch.start();
    }

    /** A call that fails to end must not hold up the script for ever. */
    private void watch() {
        try {
            Thread.sleep(MOST_MILLISECONDS);
        } catch (InterruptedException ended) {
            return;
        }
        System.out.println("BROKEN, it takes too long: " + tested);
        Runtime.getRuntime().halt(1);
    }

    void due(String call, long got, long want) {
        asked++;
        if (got != want) {
            wrong++;
            System.out.println(call + " answered " + got + ", due is " + want);
        }
    }

    void due(String call, boolean got, boolean want) {
        due(call, got ? 1 : 0, want ? 1 : 0);
    }

    /** The whole image, compared byte by byte, with nothing behind it. */
    void dueImage(String call, SlabImage x, int... want) {
        due(call + ": size()", x.size(), want.length);
        for (int k = 0; k < want.length / 8 + 2; k++) {
            long eight = 0;
            for (int n = 8 * k; n < 8 * k + 8; n++) {
                eight = eight << 8 | (n < want.length ? want[n] & 255 : 0);
            }
            due(call + ": eight(" + k + ")", x.eight(k), eight);
        }
    }

    /** A refusal, and that later calls answer as they do on a like object that was not asked for it. */
    void refused(String call, Supplier<SlabImage> made, ToLongFunction<SlabImage> asks, long want) {
        due(call, asks.applyAsLong(made.get()), want);
        Supplier<SlabImage> asked = () -> {
            SlabImage x = made.get();
            asks.applyAsLong(x);
            return x;
        };
        dueAlike("later calls, where " + call + " was refused or not", asked, made);
    }

    void dueAlike(String what, Supplier<SlabImage> one, Supplier<SlabImage> other) {
        List<List<Long>> got = Trace.of(one);
        List<List<Long>> want = Trace.of(other);
        due(what + ", answer alike", got.equals(want), true);
    }

    /** A draft that is the image of no store: open() refuses it, and all stays, the draft too. */
    void malformed(String what, int[] row) {
        refused("open() of " + what, () -> Sample.withDraft(Sample.data(), row), SlabImage::open, SlabImage.MALFORMED);
    }

    /** A draft that is an image: the store that open() takes over has just this image. */
    SlabImage opens(String what, int[] row) {
        SlabImage x = new SlabImage();
        due("open() of " + what, Bytes.open(x, row), row.length);
        dueImage(what, x, row);
        return x;
    }

    void promise(int number, Consumer<Check> test) {
        sentence("promise " + number, test);
    }

    /** A sentence of the document, with the test of its own that fails when it alone is broken. */
    void sentence(String sentence, Consumer<Check> test) {
        int before = wrong;
        tested = sentence;
        try {
            test.accept(this);
        } catch (RuntimeException | StackOverflowError thrown) {
            wrong++;
            System.out.println("a call has thrown " + thrown);
        }
        if (wrong != before) {
            System.out.println("BROKEN: " + sentence);
        }
    }

    void end() {
        System.out.println(asked + " answers, " + wrong + " not as due");
        if (wrong != 0) {
            System.exit(1);
        }
    }
}
