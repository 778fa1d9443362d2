import java.util.function.Consumer;

/** Compares answers with those that are due, and prints each one that differs. */
final class Check {
    private int wrong = 0;
    private int asked = 0;

    void due(String call, long got, long want) {
        asked++;
        if (got != want) {
            wrong++;
            System.out.println(call + " answered " + got + ", due is " + want);
        }
    }

    void due(String call, boolean got, boolean want) {
        due(call, got ? 1 : 0, want ? 1 : 0);
    }

    /** The whole image, compared byte by byte, with nothing behind it. */
    void dueImage(String call, SlabImage x, int... want) {
        due(call + ": size()", x.size(), want.length);
        for (int k = 0; k < want.length / 8 + 2; k++) {
            long eight = 0;
            for (int n = 8 * k; n < 8 * k + 8; n++) {
                eight = eight << 8 | (n < want.length ? want[n] & 255 : 0);
            }
            due(call + ": eight(" + k + ")", x.eight(k), eight);
        }
    }

    void promise(int number, Consumer<Check> test) {
        int before = wrong;
        test.accept(this);
        if (wrong != before) {
            System.out.println("promise " + number + " is broken");
        }
    }

    void end() {
        System.out.println(asked + " answers, " + wrong + " not as due");
        if (wrong != 0) {
            System.exit(1);
        }
    }
}
