import java.util.Random;

/** Long runs of mixed calls (always the same ones), each answer compared with the Reference's. */
public final class ReferenceTest {
    private static final int RUNS = 1500;
    private static final int CALLS = 480;
    private static final int[] EDGES = {
        Integer.MIN_VALUE, Integer.MIN_VALUE + 1, -32769, -32768, -129, -128, -127, -2, -1, 0, 1, 2, 3, 4, 5, 7, 8, 9,
        32, 33, 126, 127, 128, 255, 256, 511, 32767, 32768, 65536, 1 << 29, Integer.MAX_VALUE - 1, Integer.MAX_VALUE};

    private final Check check;
    private final Random random;
    private final int run;
    /* Some runs hardly ever ask for what is refused, so that they get far. */
    private final int wildness;
    private SlabImage x = new SlabImage();
    private Reference y = new Reference();
    private int calls = 0;

    private ReferenceTest(Check check, int run) {
        this.check = check;
        this.run = run;
        random = new Random(7919L * run + 1);
        wildness = run % 3 == 0 ? 5 : run % 3 == 1 ? 30 : 200;
    }

    public static void main(String[] args) {
        Check check = new Check();
        for (int run = 0; run < RUNS; run++) {
            ReferenceTest test = new ReferenceTest(check, run);
            check.sentence("the document as Reference tells it, run " + run, c -> test.whole());
        }
        check.end();
    }

    private void whole() {
        for (int k = 0; k < 300 && calls < CALLS - 110; k++) {
            call();
        }
        wholeImage();
    }

    private int edge() {
        return EDGES[random.nextInt(EDGES.length)];
    }

    private int between(int low, int high) {
        return random.nextInt(wildness) == 0 ? edge() : low + random.nextInt(high - low + 1);
    }

    private int name() {
        return between('a', 'h');
    }

    private int value() {
        return random.nextInt(4) == 0 ? edge() : random.nextInt(256) - 128;
    }

    private int record() {
        return random.nextInt(8) == 0 ? random.nextInt(200) : between(0, 9);
    }

    private void due(String call, long got, long want) {
        calls++;
        check.due("run " + run + ", call " + calls + ": " + call, got, want);
    }

    private void call() {
        int k = random.nextInt(100);
        if (y.isDefining() && k < 55) {
            define(random.nextInt(100));
        } else if (k < 4) {
            due("redefine", x.redefine(), y.redefine());
        } else if (k < 8) {
            due("seal", x.seal(), y.seal());
        } else if (k < 12) {
            takeOver();
        } else if (k < 14) {
            define(random.nextInt(100));
        } else if (k < 30) {
            look(random.nextInt(5));
        } else {
            cells(random.nextInt(100));
        }
    }

    private void define(int k) {
        if (k < 25) {
            int name = name();
            int length = between(0, 8);
            due("dimension(" + name + ", " + length + ")", x.dimension(name, length), y.dimension(name, length));
        } else if (k < 50) {
            int name = name();
            int type = between(1, 4);
            int a = between(-1, 3);
            int b = between(-1, 3);
            due("variable(" + name + ", " + type + ", " + a + ", " + b + ")",
                    x.variable(name, type, a, b), y.variable(name, type, a, b));
        } else if (k < 70) {
            int v = between(-1, 4);
            int name = name();
            int type = between(1, 4);
            int p = value();
            int q = value();
            due("attribute(" + v + ", " + name + ", " + type + ", " + p + ", " + q + ")",
                    x.attribute(v, name, type, p, q), y.attribute(v, name, type, p, q));
        } else if (k < 80) {
            int v = between(-1, 4);
            int name = name();
            due("drop(" + v + ", " + name + ")", x.drop(v, name), y.drop(v, name));
        } else if (k < 90) {
            boolean variable = random.nextBoolean();
            int n = between(0, 4);
            int name = name();
            due("rename(" + variable + ", " + n + ", " + name + ")",
                    x.rename(variable, n, name), y.rename(variable, n, name));
        } else {
            due("seal", x.seal(), y.seal());
        }
    }

    private void look(int k) {
        int v = between(0, 4);
        switch (k) {
            case 0 -> due("records", x.records(), y.records());
            case 1 -> due("size", x.size(), y.size());
            case 2 -> due("begin(" + v + ")", x.begin(v), y.begin(v));
            default -> {
                int n = between(0, 100);
                due("eight(" + n + ")", x.eight(n), y.eight(n));
            }
        }
    }

    private void cells(int k) {
        int v = between(0, 4);
        if (k < 30) {
            int i = record();
            int j = between(0, 3);
            int value = value();
            due("put(" + v + ", " + i + ", " + j + ", " + value + ")", x.put(v, i, j, value), y.put(v, i, j, value));
        } else if (k < 55) {
            int i = record();
            int j = between(0, 3);
            due("get(" + v + ", " + i + ", " + j + ")", x.get(v, i, j), y.get(v, i, j));
        } else if (k < 70) {
            int axis = between(0, 1);
            int start = between(0, 3);
            int count = random.nextBoolean() ? between(1, 2) : between(1, 8);
            int stride = random.nextBoolean() ? 1 : between(1, 8);
            due("select(" + axis + ", " + start + ", " + count + ", " + stride + ")",
                    x.select(axis, start, count, stride), y.select(axis, start, count, stride));
        } else if (k < 85) {
            int first = value();
            int step = random.nextInt(10) == 0 ? edge() : random.nextInt(7) - 3;
            due("putSlab(" + v + ", " + first + ", " + step + ")", x.putSlab(v, first, step), y.putSlab(v, first, step));
        } else {
            int n = between(0, 9);
            due("getSlab(" + v + ", " + n + ")", x.getSlab(v, n), y.getSlab(v, n));
        }
    }

    /** Takes over the image of now, as it is or with a few bytes changed, in pieces of at most 8. */
    private void takeOver() {
        int[] row = y.imageBytes();
        if (row.length > 800 || calls + row.length / 8 + 112 > CALLS) {
            due("open", x.open(), y.open());
            return;
        }
        int changes = random.nextInt(3);
        for (int k = 0; k < changes; k++) {
            row[random.nextInt(row.length)] = random.nextInt(4) == 0 ? random.nextInt(256) : random.nextInt(6);
        }
        x.erase();
        y.erase();
        for (int k = 0; k < row.length; k += 8) {
            int n = Math.min(8, row.length - k);
            long bytes = random.nextLong();
            for (int m = 0; m < n; m++) {
                bytes = bytes & ~(255L << (56 - 8 * m)) | (long) row[k + m] << (56 - 8 * m);
            }
            due("add", x.add(bytes, n) ? 1 : 0, y.add(bytes, n) ? 1 : 0);
        }
        due("open", x.open(), y.open());
    }

    private void wholeImage() {
        due("seal", x.seal(), y.seal());
        due("size", x.size(), y.size());
        for (int k = 0; k < 101; k++) {
            due("eight(" + k + ")", x.eight(k), y.eight(k));
        }
    }
}
