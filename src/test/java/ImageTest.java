import java.util.Arrays;

/** Promises 15 to 20 in ordinary runs: image, draft, and taking over an image. Their edges stand in ImageEdgesTest. */
public final class ImageTest {
    private static final int MAX = Integer.MAX_VALUE;

    public static void main(String[] args) {
        Check check = new Check();
        check.promise(15, ImageTest::size);
        check.promise(16, ImageTest::begin);
        check.promise(17, ImageTest::eight);
        check.promise(17, ImageTest::oneRecordVariable);
        check.promise(17, ImageTest::twoRecordVariables);
        check.promise(18, ImageTest::add);
        check.promise(19, ImageTest::erase);
        check.promise(20, ImageTest::open);
        check.promise(20, ImageTest::openKeeps);
        check.promise(20, ImageTest::openWithOneOtherByte);
        check.promise(20, ImageTest::openOfOneRecordVariable);
        check.promise(20, ImageTest::openLimits);
        check.promise(20, ImageTest::openOneAfterTheOther);
        check.end();
    }

    /** Every kind of definition, with three records; worked out by hand from the document. */
    private static Bytes full() {
        return new Bytes().start(3)
                .words(10, 2).name('t').words(0).name('a').words(3)
                .words(12, 1).name('x').words(3, 2).bytes(255, 254, 0, 3)
                .words(11, 4)
                .name('A').words(2, 1, 1).words(0, 0).words(1, 12, 268)
                .name('B').words(2, 0, 1).words(12, 2)
                .name('u').words(1, 2).bytes(5, -6, 0, 0).name('v').words(4, 2, -7, 8).words(2, 4, 284)
                .name('C').words(0).words(0, 0).words(3, 4, 280)
                .name('D').words(1, 0).words(0, 0).words(3, 4, 288)
                .bytes(1, 2, 3, 4, 5, 6, 7, 8, 255, 0, 0, 0)
                .bytes(128, 0, 0, 0)
                .bytes(9, 8, 7, 0).bytes(0, 1, 0, 0)
                .bytes(255, 128, 0, 0).bytes(127, 255, 0, 0)
                .bytes(0, 0, 0, 0).bytes(128, 1, 0, 0);
    }

    private static SlabImage fullByCalls() {
        SlabImage x = new SlabImage();
        x.dimension('t', 0);
        x.dimension('a', 3);
        x.variable('A', 1, 1, 1);
        x.variable('B', 2, 0, 1);
        x.variable('C', 3, -1, -1);
        x.variable('D', 3, 0, -1);
        x.attribute(1, 'u', 1, 5, -6);
        x.attribute(1, 'v', 4, -7, 8);
        x.attribute(-1, 'x', 3, -2, 3);
        x.seal();
        x.select(0, 0, 3, 1);
        x.select(1, 0, 3, 1);
        x.putSlab(0, 1, 1);
        x.put(0, 2, 2, -1);
        x.put(2, 0, 0, -32768);
        x.put(3, 2, 0, -32767);
        x.put(3, 0, 0, 1);
        x.put(3, 1, 0, 32767);
        x.select(0, 0, 1, 1);
        x.putSlab(1, 9, -1);
        x.put(1, 1, 0, 255);
        x.put(1, 1, 1, 128);
        return x;
    }

    private static void size(Check c) {
        SlabImage x = fullByCalls();
        c.due("size()", x.size(), full().all().length);
        c.due("size()", x.size(), 308);
        x.put(3, 3, 0, 0);
        c.due("one record more", x.size(), 316);
        x.put(0, 0, 0, 0);
        c.due("a fixed cell", x.size(), 316);
        x.redefine();
        c.due("DEFINING", x.size(), SlabImage.MODE);
    }

    private static void begin(Check c) {
        SlabImage x = fullByCalls();
        c.due("begin(0)", x.begin(0), 268);
        c.due("begin(1)", x.begin(1), 284);
        c.due("begin(2)", x.begin(2), 280);
        c.due("begin(3)", x.begin(3), 288);
        c.due("begin(4)", x.begin(4), SlabImage.NOTHING);
        c.due("begin(-1)", x.begin(-1), SlabImage.NOTHING);
        c.due("begin(MAX)", x.begin(MAX), SlabImage.NOTHING);
        x.redefine();
        c.due("DEFINING", x.begin(0), SlabImage.MODE);
        x.attribute(-1, 'y', 1, 0, 0);
        x.variable('E', 4, 1, -1);
        x.seal();
        c.due("all moved", x.begin(0), 268 + 20 + 36);
        c.due("the new one", x.begin(4), 284 + 20 + 36);
        c.due("a record variable", x.begin(1), 284 + 20 + 36 + 12);
    }

    private static void eight(Check c) {
        SlabImage x = fullByCalls();
        c.dueImage("full", x, full().all());
        c.due("eight(-1)", x.eight(-1), 0);
        c.due("eight(MIN)", x.eight(Integer.MIN_VALUE), 0);
        c.due("eight(MAX)", x.eight(MAX), 0);
        c.due("a k that wraps to 0", x.eight(1 << 29), 0);
        c.due("a k that wraps to 8", x.eight((1 << 29) + 1), 0);
        c.due("eight(100)", x.eight(100), 0);
        x.redefine();
        c.due("DEFINING", x.eight(0), 0);
        SlabImage y = new SlabImage();
        y.dimension('a', 1);
        c.due("44 bytes", y.seal(), 44);
        c.due("the last four and four 0", y.eight(5), 0);
        c.due("the length, and those behind it", y.eight(3), 1L << 32);
    }

    private static void oneRecordVariable(Check c) {
        SlabImage x = new SlabImage();
        x.dimension('a', 3);
        x.dimension('t', 0);
        x.variable('A', 1, 1, 0);
        x.variable('B', 2, 0, -1);
        c.due("seal()", x.seal(), 136);
        x.put(0, 1, 0, 5);
        x.put(1, 1, 0, 'q');
        c.dueImage("no bytes 0 in records", x, new Bytes().start(2)
                .words(10, 2).name('a').words(3).name('t').words(0).words(0, 0)
                .words(11, 2).name('A').words(2, 1, 0, 0, 0, 1, 4, 136)
                .name('B').words(1, 0, 0, 0, 2, 4, 132)
                .bytes(0, 'q', 0, 0).bytes(-127, -127, -127, 5, -127, -127).all());
    }

    private static void twoRecordVariables(Check c) {
        SlabImage x = new SlabImage();
        x.dimension('t', 0);
        x.variable('A', 1, 0, -1);
        x.seal();
        x.put(0, 1, 0, 6);
        x.redefine();
        x.variable('B', 3, 0, -1);
        c.due("seal()", x.seal(), 116 + 16);
        x.put(1, 0, 0, 259);
        c.dueImage("bytes 0 in records", x, new Bytes().start(2)
                .words(10, 1).name('t').words(0).words(0, 0)
                .words(11, 2).name('A').words(1, 0, 0, 0, 1, 4, 116)
                .name('B').words(1, 0, 0, 0, 3, 4, 120)
                .bytes(-127, 0, 0, 0, 1, 3, 0, 0, 6, 0, 0, 0, 128, 1, 0, 0).all());
    }

    private static void add(Check c) {
        SlabImage x = new SlabImage();
        c.due("n is 0", x.add(0, 0), false);
        c.due("n is 9", x.add(0, 9), false);
        c.due("n is -1", x.add(0, -1), false);
        c.due("n is MAX", x.add(0, MAX), false);
        int[] row = full().all();
        for (int n = 1; n <= 8; n++) {
            SlabImage y = new SlabImage();
            for (int k = 0; k < row.length; k += n) {
                int here = Math.min(n, row.length - k);
                long bytes = -1L;
                for (int m = 0; m < here; m++) {
                    bytes = bytes & ~(255L << (56 - 8 * m)) | (long) row[k + m] << (56 - 8 * m);
                }
                c.due("add", y.add(bytes, here), true);
            }
            c.due("by " + n + " bytes", y.open(), row.length);
        }
        for (int k = 0; k < 99; k++) {
            c.due("the draft grows", x.add(-1L, 8), true);
        }
        c.due("795 bytes", x.add(-1L, 3), true);
        c.due("six more", x.add(-1L, 6), false);
        c.due("five more", x.add(-1L, 5), true);
        c.due("one more", x.add(-1L, 1), false);
    }

    private static void erase(Check c) {
        SlabImage x = new SlabImage();
        x.erase();
        c.due("of no bytes", x.open(), SlabImage.MALFORMED);
        x.add(5L, 8);
        x.erase();
        Bytes.load(x, full().all());
        c.due("a draft after it", x.open(), 308);
        x.erase();
        c.due("no bytes any more", x.open(), SlabImage.MALFORMED);
        c.due("the store stays", x.size(), 308);
        x.redefine();
        for (int k = 0; k < 100; k++) {
            x.add(0, 8);
        }
        x.erase();
        c.due("room again", x.add(0, 8), true);
        c.due("still DEFINING", x.size(), SlabImage.MODE);
    }

    private static void open(Check c) {
        SlabImage x = new SlabImage();
        c.due("open()", Bytes.open(x, full().all()), 308);
        c.dueImage("the same image", x, full().all());
        c.due("records()", x.records(), 3);
        c.due("BYTE", x.get(0, 2, 2), -1);
        c.due("BYTE", x.get(0, 1, 0), 4);
        c.due("TEXT", x.get(1, 1, 1), 128);
        c.due("SHORT", x.get(2, 0, 0), -32768);
        c.due("SHORT in a record", x.get(3, 1, 0), 32767);
        c.due("begin(3)", x.begin(3), 288);
        c.due("a record more", x.put(3, 4, 0, 5), 0);
        c.due("fill in it", x.get(1, 3, 2), 0);
        c.due("fill in it", x.get(3, 3, 0), -32767);
        c.due("DATA", x.seal(), SlabImage.MODE);
        x.redefine();
        c.due("its names are taken", x.variable('D', 1, -1, -1), SlabImage.TAKEN);
        c.due("its attributes are there", x.drop(1, 'v'), 0);
        c.due("a second growing dimension", x.dimension('z', 0), SlabImage.FULL);
        c.due("the draft stays", x.open(), 308);
        c.dueImage("all is as in the draft", x, full().all());
    }

    private static void openKeeps(Check c) {
        SlabImage x = fullByCalls();
        x.select(0, 1, 2, 1);
        x.select(1, 0, 2, 2);
        c.due("a slab before", x.getSlab(0, 3), -1);
        Bytes.load(x, new Bytes().start(1).words(0, 0, 0, 0, 0, 0).all());
        c.due("refused", x.open(), SlabImage.MALFORMED);
        c.dueImage("the store stays", x, full().all());
        x.redefine();
        c.due("refused, DEFINING", x.open(), SlabImage.MALFORMED);
        c.due("DEFINING stays", x.size(), SlabImage.MODE);
        Bytes.load(x, full().all());
        c.due("open()", x.open(), 308);
        c.due("the selections stay", x.getSlab(0, 3), -1);
        c.due("the selections stay", x.getSlab(0, 1), 6);
        c.due("the selections stay", x.getSlab(0, 4), SlabImage.NOVALUE);
    }

    /** Whether full() is still an image when its byte k is b; all other bytes tell of no store when they change. */
    private static boolean isFree(int k, int[] row, int b) {
        boolean cell = k >= 268 && !isPadding(k);
        boolean attributeValue = k >= 64 && k < 68 || k == 160 || k == 161 || k >= 180 && k < 188;
        boolean name = b >= 33 && b <= 126 && isNameOfItsOwn(k, row, b);
        return cell || attributeValue || name || isTypeOfEqualShape(k, b);
    }

    private static boolean isPadding(int k) {
        return k >= 277 && k < 280 || k >= 282 && k < 284
                || k >= 284 && ((k - 284) % 8 == 3 || (k - 284) % 8 >= 6);
    }

    private static boolean isNameOfItsOwn(int k, int[] row, int b) {
        int[][] lists = {{20, 32}, {52}, {80, 120, 204, 236}, {148, 168}};
        for (int[] list : lists) {
            boolean here = false;
            boolean other = false;
            for (int place : list) {
                here |= place == k;
                other |= place != k && row[place] == b;
            }
            if (here) {
                return !other;
            }
        }
        return false;
    }

    /** Another type may stand there when it leaves the padded size as it is, and the bytes 0 too. */
    private static boolean isTypeOfEqualShape(int k, int b) {
        return k == 107 && b == 2 || k == 155 && (b == 2 || b == 3) || k == 191 && b == 1
                || k == 223 && (b == 1 || b == 2 || b == 4) || k == 259 && b == 4;
    }

    private static void openWithOneOtherByte(Check c) {
        int[] row = full().all();
        for (int k = 0; k < row.length; k++) {
            int kept = row[k];
            for (int b = 0; b < 256; b++) {
                row[k] = b;
                int due = b == kept || isFree(k, row, b) ? row.length : SlabImage.MALFORMED;
                c.due("byte " + k + " is " + b, Bytes.open(new SlabImage(), row), due);
            }
            row[k] = kept;
        }
        for (int n = 0; n < row.length; n++) {
            SlabImage x = new SlabImage();
            c.due(n + " bytes alone", Bytes.open(x, Arrays.copyOf(row, n)), SlabImage.MALFORMED);
        }
        for (int n = 1; n < 9; n++) {
            SlabImage x = new SlabImage();
            c.due(n + " bytes more", Bytes.open(x, Arrays.copyOf(row, row.length + n)),
                    SlabImage.MALFORMED);
        }
    }

    private static void openOfOneRecordVariable(Check c) {
        SlabImage x = new SlabImage();
        c.due("five records of three bytes", Bytes.open(x, Images.oneGrowing(5, 2, 0, 1, 15)), 111);
        c.due("the last cell", x.get(0, 4, 2), 15);
        c.due("a cell", x.get(0, 1, 0), 4);
        c.dueImage("the same image", x, Images.oneGrowing(5, 2, 0, 1, 15));
        c.due("a byte too few", Bytes.open(x, Images.oneGrowing(5, 2, 0, 1, 14)), SlabImage.MALFORMED);
        c.due("a byte too many", Bytes.open(x, Images.oneGrowing(5, 2, 0, 1, 16)), SlabImage.MALFORMED);
        c.due("a record too many", Bytes.open(x, Images.oneGrowing(4, 2, 0, 1, 15)), SlabImage.MALFORMED);
        c.due("padded records", Bytes.open(x, Images.oneGrowing(5, 2, 0, 1, 20)), SlabImage.MALFORMED);
        c.due("a number of records that wraps", Bytes.open(x, Images.oneGrowing(MAX, 2, 0, 1, 15)), SlabImage.MALFORMED);
        c.due("below 0", Bytes.open(x, Images.oneGrowing(-5, 2, 0, 1, 15)), SlabImage.MALFORMED);
        c.due("one axis", Bytes.open(x, Images.oneGrowing(5, 1, 0, 0, 5)), 97);
        c.due("a second axis that grows", Bytes.open(x, Images.oneGrowing(5, 2, 0, 0, 5)), SlabImage.MALFORMED);
        c.due("only the second grows", Bytes.open(x, Images.oneGrowing(0, 2, 1, 0, 0)), SlabImage.MALFORMED);
        c.due("no dimension 2", Bytes.open(x, Images.oneGrowing(0, 1, 2, 0, 0)), SlabImage.MALFORMED);
        c.due("no dimension -1", Bytes.open(x, Images.oneGrowing(0, 1, -1, 0, 4)), SlabImage.MALFORMED);
        c.due("no second dimension -1", Bytes.open(x, Images.oneGrowing(5, 2, 0, -1, 5)), SlabImage.MALFORMED);
        c.due("three axes", Bytes.open(x, Images.oneGrowing(0, 3, 0, 1, 0)), SlabImage.MALFORMED);
        c.due("-1 axes", Bytes.open(x, Images.oneGrowing(0, -1, 0, 1, 0)), SlabImage.MALFORMED);
        c.due("the last that opened", x.size(), 97);
    }

    private static void openLimits(Check c) {
        Bytes row = new Bytes().start(720).words(10, 1).name('t').words(0).words(0, 0)
                .words(11, 1).name('A').words(1, 0, 0, 0, 1, 4, 80);
        for (int k = 0; k < 720; k++) {
            row.bytes(k);
        }
        SlabImage x = new SlabImage();
        c.due("800 bytes", Bytes.open(x, row.all()), 800);
        c.due("the last record", x.get(0, 719, 0), (byte) 719);
        c.due("one more", x.put(0, 720, 0, 0), SlabImage.TOOBIG);
        c.dueImage("the same image", x, row.all());
        c.due("a smaller store", Bytes.open(x, Images.oneGrowing(1, 2, 0, 1, 3)), 99);
        c.due("grows by fill values", x.put(0, 9, 0, 1), 0);
        c.due("fill where the other store had cells", x.get(0, 5, 1), -127);
        c.due("the first store again", Bytes.open(x, row.all()), 800);
        c.due("its last record", x.get(0, 719, 0), (byte) 719);
    }

    /** As many of all things as there may be: four dimensions, and five record variables with three records. */
    private static int[] crowded() {
        Bytes row = new Bytes().start(3)
                .words(10, 4).name('a').words(2).name('t').words(0).name('c').words(8).name('d').words(1)
                .words(12, 3).name('x').words(1, 2).bytes(1, 2, 0, 0).name('y').words(2, 2).bytes(3, 4, 0, 0)
                .name('z').words(3, 2).bytes(5, 6, 7, 8).words(11, 5);
        for (int v = 0; v < 5; v++) {
            row.name('A' + v).words(2, 1, 0).words(12, 1).name('u').words(4, 2, v, -v).words(1, 4, 460 + 4 * v);
        }
        for (int k = 0; k < 15; k++) {
            row.bytes(k, -k, 0, 0);
        }
        return row.all();
    }

    /** Nothing of a store that was there, or that was refused, is left in the next one. */
    private static void openOneAfterTheOther(Check c) {
        int[] crowded = crowded();
        int[] refused = crowded();
        refused[refused.length - 1] = 1;
        int[] empty = Images.empty();
        int[][] rows = {crowded, crowded, empty, empty, Images.scalars("ABCDE"), refused, Images.scalars("XY"),
            Images.storeAttributes(3, "abc"), Images.storeAttributes(1, "c"), crowded, full().all(),
            Images.oneGrowing(5, 2, 0, 1, 15)};
        SlabImage alone = new SlabImage();
        c.due("a crowded one", Bytes.open(alone, crowded), 520);
        c.dueImage("a crowded one", alone, crowded);
        c.due("its last cell", alone.get(4, 2, 1), -14);
        SlabImage x = new SlabImage();
        int[] last = empty;
        for (int k = 0; k < rows.length; k++) {
            boolean right = rows[k] != refused;
            c.due("image " + k, Bytes.open(x, rows[k]), right ? rows[k].length : SlabImage.MALFORMED);
            last = right ? rows[k] : last;
            c.due("size() of " + k, x.size(), last.length);
            if (k == 6 || k == 11) {
                c.dueImage("image " + k, x, last);
            }
        }
    }
}
