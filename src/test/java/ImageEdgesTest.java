import java.util.Arrays;

/** The boundary cases that promises 15 to 20 name, sentence by sentence. */
public final class ImageEdgesTest {
    private static final int MIN = Integer.MIN_VALUE;
    private static final int MAX = Integer.MAX_VALUE;

    public static void main(String[] args) {
        Check check = new Check();
        check.sentence("15: the number of bytes of the image", ImageEdgesTest::size);
        check.sentence("16: NOTHING when there is no variable v", ImageEdgesTest::beginOfNone);
        check.sentence("17: the first in the highest byte", ImageEdgesTest::eightInOrder);
        check.sentence("17: 0 in the place of bytes that there are not", ImageEdgesTest::eightBeyond);
        check.sentence("17: 0 for all of them when k is negative", ImageEdgesTest::eightNegative);
        check.sentence("17: 0 for all of them when the mode is DEFINING", ImageEdgesTest::eightDefining);
        check.sentence("18: the n highest bytes, the highest first", ImageEdgesTest::addHighest);
        check.sentence("18: false when n is not 1 .. 8", ImageEdgesTest::addCount);
        check.sentence("18: false when the draft would have more than 800 bytes", ImageEdgesTest::addFull);
        check.sentence("19: the draft has no bytes any more", ImageEdgesTest::erase);
        check.sentence("20: that store takes the place of the one that there is", ImageEdgesTest::openReplaces);
        check.sentence("20: the mode becomes DATA, the number of bytes is answered", ImageEdgesTest::openAnswers);
        check.sentence("20: MALFORMED when bytes are missing", ImageEdgesTest::openShort);
        check.sentence("20: MALFORMED when there are more bytes", ImageEdgesTest::openLong);
        check.sentence("20: MALFORMED in DEFINING changes nothing either", ImageEdgesTest::openRefusedInDefining);
        check.sentence("20: MALFORMED changes nothing of a store taken over before", ImageEdgesTest::openRefusedAfterOpen);
        check.sentence("20: the draft stays", ImageEdgesTest::draftStays);
        check.sentence("20: the selections stay", ImageEdgesTest::selectionsStay);
        check.end();
    }

    /** 105 bytes: of the last eight only one is there. */
    private static int[] oddImage() {
        return Images.oneGrowing(3, 2, 0, 1, 9);
    }

    private static SlabImage odd() {
        SlabImage x = new SlabImage();
        Bytes.open(x, oddImage());
        return x;
    }

    private static void size(Check c) {
        SlabImage x = Sample.data();
        c.due("the sample", x.size(), 316);
        x.put(3, 2, 0, 1);
        c.due("a record more", x.size(), 328);
        x.put(3, 2, 0, 2);
        c.due("none more", x.size(), 328);
        c.due("no multiple of 4", odd().size(), 105);
        SlabImage y = new SlabImage();
        y.seal();
        c.due("the smallest", y.size(), 32);
    }

    private static void beginOfNone(Check c) {
        for (int v : new int[] {MIN, -2, -1, 4, 5, MAX}) {
            c.refused("begin(" + v + ")", Sample::data, x -> x.begin(v), SlabImage.NOTHING);
        }
        SlabImage x = Sample.data();
        c.due("begin(0)", x.begin(0), 280);
        c.due("begin(1)", x.begin(1), 292);
        c.due("begin(2)", x.begin(2), 288);
        c.due("begin(3)", x.begin(3), 300);
        SlabImage y = new SlabImage();
        y.seal();
        c.due("of no variables", y.begin(0), SlabImage.NOTHING);
    }

    private static void eightInOrder(Check c) {
        SlabImage x = new SlabImage();
        x.attribute(-1, 'a', 4, 0x81020304, 0x05060788);
        x.seal();
        c.due("a highest byte above 127", x.eight(5), 0x8102030405060788L);
        c.due("eight(0)", x.eight(0), 0x4752440100000000L);
        c.due("a name", x.eight(3), 0x0000000161000000L);
    }

    private static void eightBeyond(Check c) {
        for (int length = 97; length <= 104; length++) {
            int records = length - 96;
            SlabImage x = new SlabImage();
            x.dimension('t', 0);
            x.dimension('a', 1);
            x.variable('A', 2, 0, 1);
            x.seal();
            long want = 0;
            for (int i = 0; i < records; i++) {
                x.put(0, i, 0, 201 + i);
                want |= (201L + i) << 56 - 8 * i;
            }
            c.due("size()", x.size(), length);
            c.due("the last of " + length, x.eight(12), want);
            c.due("none behind it", x.eight(13), 0);
        }
        for (int k : new int[] {40, 41, 99, 100, 101, 1 << 26, 1 << 28, (1 << 29) - 1, 1 << 29, (1 << 29) + 1, 1 << 30,
            (1 << 30) + 1, MAX}) {
            c.refused("eight(" + k + ")", Sample::data, x -> x.eight(k), 0);
        }
        SlabImage shrunk = Sample.data();
        c.due("bytes of a greater store", shrunk.eight(38), 0x012E012F80010000L);
        Bytes.open(shrunk, oddImage());
        c.due("one byte alone", shrunk.eight(13), 9L << 56);
        for (int k = 14; k < 41; k++) {
            c.due("none of the greater store", shrunk.eight(k), 0);
        }
        SlabImage full = new SlabImage();
        full.dimension('t', 0);
        full.variable('A', 1, 0, -1);
        full.seal();
        full.put(0, 719, 0, 1);
        c.due("the last of 800 bytes", full.eight(99), 0x8181818181818101L);
        c.due("none behind it", full.eight(100), 0);
    }

    private static void eightNegative(Check c) {
        for (int k : new int[] {-1, -2, -8, -100, -(1 << 29), -(1 << 29) + 1, -(1 << 30) + 2, MIN, MIN + 1, MIN + 12}) {
            c.refused("eight(" + k + ")", Sample::data, x -> x.eight(k), 0);
        }
    }

    private static void eightDefining(Check c) {
        SlabImage x = Sample.defining();
        for (int k = 0; k < 41; k++) {
            c.due("eight(" + k + ") in DEFINING", x.eight(k), 0);
        }
        c.due("seal()", x.seal(), 316);
        c.due("eight(0) in DATA", x.eight(0), 0x4752440100000002L);
        c.due("of a new object", new SlabImage().eight(0), 0);
    }

    private static void addHighest(Check c) {
        int[] row = oddImage();
        for (int n = 1; n <= 8; n++) {
            SlabImage x = new SlabImage();
            for (int k = 0; k < row.length; k += n) {
                int here = Math.min(n, row.length - k);
                long bytes = 0;
                for (int m = 0; m < 8; m++) {
                    bytes = bytes << 8 | (m < here ? row[k + m] & 255 : 0xEE);
                }
                c.due("add(.., " + here + ")", x.add(bytes, here), true);
            }
            c.due("open() of pieces of " + n, x.open(), row.length);
            c.dueImage("pieces of " + n, x, row);
        }
    }

    /** The sample whose draft is an image but for its last byte, 0. */
    private static SlabImage almost() {
        int[] row = Images.empty();
        return Sample.withDraft(Sample.data(), Arrays.copyOf(row, row.length - 1));
    }

    private static void addCount(Check c) {
        for (int n : new int[] {MIN, -8, -1, 0, 9, 10, 64, 256 + 1, MAX}) {
            c.refused("n is " + n, Sample::data, x -> x.add(0, n) ? 1 : 0, 0);
            c.refused("n is " + n + " in DEFINING", Sample::defining, x -> x.add(0, n) ? 1 : 0, 0);
            SlabImage x = almost();
            c.due("n is " + n, x.add(-1L, n), false);
            c.due("the missing byte", x.add(0, 1), true);
            c.due("nothing else was added", x.open(), 32);
        }
        for (int n = 1; n <= 8; n++) {
            SlabImage x = new SlabImage();
            c.due("n is " + n, x.add(0, n), true);
        }
    }

    private static SlabImage withBytes(int bytes) {
        SlabImage x = new SlabImage();
        for (int k = 0; k + 8 <= bytes; k += 8) {
            x.add(0, 8);
        }
        if (bytes % 8 != 0) {
            x.add(0, bytes % 8);
        }
        return x;
    }

    private static void addFull(Check c) {
        for (int missing = 0; missing <= 8; missing++) {
            int room = missing;
            for (int n = 1; n <= 8; n++) {
                int count = n;
                if (n <= missing) {
                    SlabImage x = withBytes(800 - missing);
                    c.due(n + " into room for " + missing, x.add(0, n), true);
                    c.due("one more than is left", missing - n < 8 && x.add(0, missing - n + 1), false);
                } else {
                    c.refused(n + " into room for " + missing, () -> withBytes(800 - room),
                            x -> x.add(-1L, count) ? 1 : 0, 0);
                }
            }
        }
        int[] cells = new int[720];
        int[] row = Images.oneVariable(720, new int[] {0}, new int[] {0}, 1, 4, cells);
        SlabImage x = new SlabImage();
        Bytes.load(x, row);
        c.due("one byte more", x.add(-1L, 1), false);
        c.due("the draft of 800 bytes is as it was", x.open(), 800);
        SlabImage y = new SlabImage();
        Bytes.load(y, Arrays.copyOf(row, 796));
        c.due("five bytes into room for four", y.add(-1L, 5), false);
        c.due("four bytes", y.add(0, 4), true);
        c.due("no byte of the five is in it", y.open(), 800);
    }

    private static void erase(Check c) {
        SlabImage x = Sample.data();
        c.due("the draft", Sample.data().open(), 52);
        x.erase();
        c.due("no bytes", x.open(), SlabImage.MALFORMED);
        c.due("the store stays", x.size(), 316);
        Bytes.load(x, Images.empty());
        c.due("another draft", x.open(), 32);
        Bytes.load(x, oddImage());
        Bytes.load(x, Arrays.copyOf(oddImage(), 104));
        c.due("no byte of the draft before", x.open(), SlabImage.MALFORMED);
        SlabImage y = withBytes(800);
        y.erase();
        for (int k = 0; k < 100; k++) {
            c.due("room for eight bytes", y.add(0, 8), true);
        }
        c.due("no room for one more", y.add(0, 1), false);
        c.dueAlike("erase() of no bytes, or none", () -> {
            SlabImage none = new SlabImage();
            none.erase();
            return none;
        }, SlabImage::new);
        SlabImage z = Sample.defining();
        z.erase();
        c.due("still DEFINING", z.seal(), 316);
        c.due("records()", z.records(), 2);
        c.due("the selections stay", z.getSlab(0, 3), 13);
    }

    private static void openReplaces(Check c) {
        for (boolean data : new boolean[] {true, false}) {
            SlabImage x = data ? Sample.data() : Sample.defining();
            c.due("open()", Bytes.open(x, oddImage()), 105);
            c.dueImage("the new store", x, oddImage());
            c.due("records()", x.records(), 3);
            c.due("begin(0)", x.begin(0), 96);
            c.due("no variable 1", x.begin(1), SlabImage.NOTHING);
            c.due("no cell of the other store", x.get(2, 0, 0), SlabImage.NOVALUE);
            c.due("a cell", x.get(0, 2, 2), 9);
            c.due("a record more", x.put(0, 4, 0, 1), 0);
            c.due("fill in it", x.get(0, 3, 0), -127);
            x.redefine();
            c.due("its dimension", x.dimension('t', 1), SlabImage.TAKEN);
            c.due("none of the other store", x.dimension('b', 1), 2);
            c.due("its variable", x.variable('A', 1, -1, -1), SlabImage.TAKEN);
            c.due("none of the other store", x.variable('B', 1, -1, -1), 1);
            c.due("no attribute of the other store", x.drop(-1, 'p'), SlabImage.NOTHING);
            c.due("nor of its variable", x.drop(1, 'p'), SlabImage.NOTHING);
            c.due("an empty store", Bytes.open(x, Images.empty()), 32);
            c.due("no records", x.records(), 0);
        }
    }

    private static void openAnswers(Check c) {
        int[][] rows = {Images.empty(), oddImage(), Images.scalars("ABC"), Images.storeAttributes(3, "xyz")};
        for (int[] row : rows) {
            SlabImage x = new SlabImage();
            c.due("open() in DEFINING", Bytes.open(x, row), row.length);
            c.due("DATA", x.size(), row.length);
            c.due("seal()", x.seal(), SlabImage.MODE);
            c.due("open() in DATA", x.open(), row.length);
            c.due("still DATA", x.redefine(), 0);
        }
    }

    private static void openShort(Check c) {
        int[] row = oddImage();
        for (int n = 0; n < row.length; n++) {
            c.malformed("its first " + n + " bytes", Arrays.copyOf(row, n));
        }
        c.malformed("31 bytes 0 of an empty store", Arrays.copyOf(Images.empty(), 31));
    }

    private static void openLong(Check c) {
        for (int more : new int[] {1, 2, 3, 4, 5, 8, 100, 695}) {
            c.malformed(more + " bytes 0 more", Arrays.copyOf(oddImage(), oddImage().length + more));
        }
        for (int more : new int[] {1, 3, 4, 8, 768}) {
            c.malformed(more + " bytes 0 more", Arrays.copyOf(Images.empty(), 32 + more));
            c.malformed(more + " bytes 0 more", Arrays.copyOf(Images.scalars("A"), 68 + Math.min(more, 732)));
        }
    }

    private static void openRefusedInDefining(Check c) {
        int[][] rows = {{}, {71, 82, 68, 1}, Images.with(oddImage(), 3, 2), Images.dimensions('a', 9),
            Images.scalars("ABCDA"), Images.oneGrowing(4, 2, 0, 1, 9)};
        for (int[] row : rows) {
            c.refused("open()", () -> Sample.withDraft(Sample.defining(), row), SlabImage::open, SlabImage.MALFORMED);
            c.refused("open()", () -> Sample.withDraft(new SlabImage(), row), SlabImage::open, SlabImage.MALFORMED);
        }
    }

    private static void openRefusedAfterOpen(Check c) {
        int[][] rows = {{}, Images.with(oddImage(), 3, 2), Images.with(Images.scalars("AB"), 63, 1),
            Images.scalars("ABCDA"), Images.oneGrowing(3, 2, 0, 1, 8), Images.storeAttributes(3, "aba")};
        for (int[] row : rows) {
            c.refused("open() after one", () -> Sample.withDraft(odd(), row), SlabImage::open, SlabImage.MALFORMED);
            c.refused("open() after two", () -> Sample.withDraft(twiceOpened(), row), SlabImage::open,
                    SlabImage.MALFORMED);
        }
    }

    private static SlabImage twiceOpened() {
        SlabImage x = odd();
        Bytes.open(x, Images.variableAttributes(2, "xy"));
        return x;
    }

    private static void draftStays(Check c) {
        SlabImage x = new SlabImage();
        int[] row = Images.empty();
        Bytes.load(x, Arrays.copyOf(row, 20));
        c.due("a part", x.open(), SlabImage.MALFORMED);
        x.add(0, 8);
        x.add(0, 4);
        c.due("the rest added to it", x.open(), 32);
        c.due("once more", x.open(), 32);
        c.due("a byte more", x.add(0, 1), true);
        c.due("is behind the others", x.open(), SlabImage.MALFORMED);
        c.due("the store stays", x.size(), 32);

        SlabImage y = new SlabImage();
        Bytes.load(y, oddImage());
        y.open();
        y.put(0, 0, 0, 99);
        y.put(0, 9, 0, 99);
        y.redefine();
        y.rename(true, 0, 'z');
        c.due("the draft, not the store of now", y.open(), 105);
        c.dueImage("the draft", y, oddImage());
    }

    private static void selectionsStay(Check c) {
        SlabImage x = new SlabImage();
        x.select(0, 1, 2, 1);
        x.select(1, 0, 2, 2);
        Bytes.open(x, oddImage());
        int[] want = {4, 6, 7, 9};
        for (int n = 0; n < 4; n++) {
            c.due("getSlab(0, " + n + ")", x.getSlab(0, n), want[n]);
        }
        c.due("no cell 4", x.getSlab(0, 4), SlabImage.NOVALUE);
        x.select(0, 0, 1, 1);
        c.due("open() again", x.open(), 105);
        c.due("the selection of now", x.getSlab(0, 1), 3);
        c.due("the selection of now", x.getSlab(0, 2), SlabImage.NOVALUE);
    }
}
