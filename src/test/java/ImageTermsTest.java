/** The sentences of the section "Terms" that tell of the image: its lists, its bytes 0, its begins, its most bytes. */
public final class ImageTermsTest {
    private static final int MIN = Integer.MIN_VALUE;
    private static final int MAX = Integer.MAX_VALUE;

    public static void main(String[] args) {
        Check check = new Check();
        check.sentence("the image starts with the bytes 71, 82, 68, 1", ImageTermsTest::signature);
        check.sentence("an empty list has 0 in the place of its kind", ImageTermsTest::emptyLists);
        check.sentence("the kinds of lists are 10, 12 and 11", ImageTermsTest::kinds);
        check.sentence("a name is written as the number 1, its byte and three bytes 0", ImageTermsTest::writtenNames);
        check.sentence("bytes 0 behind the values of an attribute", ImageTermsTest::attributePadding);
        check.sentence("cells in the order of i, and for equal i of j", ImageTermsTest::cellOrder);
        check.sentence("bytes 0 behind the cells of a variable", ImageTermsTest::cellPadding);
        check.sentence("cells of variables that are no record variables come first", ImageTermsTest::recordsLast);
        check.sentence("bytes 0 in a record of several variables", ImageTermsTest::recordPadding);
        check.sentence("with one record variable bytes 0 are left out in every record", ImageTermsTest::noRecordPadding);
        check.sentence("one record variable among others", ImageTermsTest::oneAmongOthers);
        check.sentence("the padded size has the bytes 0 also when they are left out", ImageTermsTest::paddedSizes);
        check.sentence("the begin is where cells would start if there were a record", ImageTermsTest::beginWithoutRecord);
        check.sentence("at most 800 bytes; 7: TOOBIG when the image would have more", ImageTermsTest::mostBytesOfSeal);
        check.sentence("at most 800 bytes; 9: TOOBIG when the image would have more", ImageTermsTest::mostBytesOfPut);
        check.sentence("at most 800 bytes; 12: TOOBIG when the image would have more", ImageTermsTest::mostBytesOfPutSlab);
        check.sentence("at most 800 bytes; 20: MALFORMED when there is no such store", ImageTermsTest::mostBytesOfOpen);
        check.sentence("the list with number -1 is the store's, that with number v variable v's", ImageTermsTest::lists);
        check.end();
    }

    private static void signature(Check c) {
        int[] right = {71, 82, 68, 1};
        for (int k = 0; k < 4; k++) {
            for (int b : new int[] {0, 1, right[k] - 1, right[k] + 1, 255}) {
                if (b != right[k]) {
                    c.malformed("byte " + k + " is " + b, Images.with(Images.empty(), k, b));
                }
            }
        }
        SlabImage x = c.opens("an empty store", Images.empty());
        c.due("eight(0)", x.eight(0), 0x4752440100000000L);
    }

    private static void emptyLists(Check c) {
        SlabImage x = new SlabImage();
        x.seal();
        c.dueImage("three empty lists", x, Images.empty());
        SlabImage y = new SlabImage();
        y.variable('A', 4, -1, -1);
        y.seal();
        y.put(0, 0, 0, 99);
        c.dueImage("an empty list of a variable", y, Images.variableAttributes(0, ""));
        y.redefine();
        y.attribute(0, 'a', 1, 0, 0);
        y.attribute(-1, 'a', 1, 0, 0);
        y.drop(0, 'a');
        y.drop(-1, 'a');
        y.seal();
        c.dueImage("lists that are empty again", y, Images.variableAttributes(0, ""));

        c.malformed("kind 10 of no dimensions", Images.with(Images.empty(), 11, 10));
        c.malformed("kind 12 of no attributes", Images.with(Images.empty(), 19, 12));
        c.malformed("kind 11 of no variables", Images.with(Images.empty(), 27, 11));
        c.malformed("kind 12 of no attributes of a variable", Images.with(Images.variableAttributes(0, ""), 47, 12));
    }

    private static void kinds(Check c) {
        int[] dimension = Images.dimensions('a', 1);
        int[] attribute = Images.storeAttributes(1, "a");
        int[] variable = Images.scalars("A");
        int[] its = Images.variableAttributes(1, "a");
        c.due("kind of dimensions", c.opens("a dimension", dimension).eight(1), 10L << 32 | 1);
        c.due("kind of attributes", c.opens("an attribute", attribute).eight(2), 12L << 32 | 1);
        c.due("kind of variables", c.opens("a variable", variable).eight(3), 11L << 32 | 1);
        SlabImage x = c.opens("its attribute", its);
        c.due("kind of attributes of a variable", x.eight(5) & 0xFFFFFFFFL, 12);
        for (int kind : new int[] {0, 1, 9, 10, 11, 12, 13, 255}) {
            malformedBut(c, kind, 10, "dimensions", Images.with(dimension, 11, kind));
            malformedBut(c, kind, 12, "attributes", Images.with(attribute, 19, kind));
            malformedBut(c, kind, 11, "variables", Images.with(variable, 27, kind));
            malformedBut(c, kind, 12, "attributes of a variable", Images.with(its, 47, kind));
        }
        c.malformed("a kind with a higher byte", Images.with(dimension, 8, 1));
    }

    private static void malformedBut(Check c, int kind, int right, String what, int[] row) {
        if (kind != right) {
            c.malformed("kind " + kind + " of " + what, row);
        }
    }

    private static void writtenNames(Check c) {
        int[][] rows = {Images.dimensions('a', 1), Images.storeAttributes(1, "a"), Images.scalars("A"),
            Images.variableAttributes(1, "a")};
        int[] places = {16, 24, 32, 52};
        for (int k = 0; k < rows.length; k++) {
            c.due("the number 1", rows[k][places[k] + 3], 1);
            c.opens("names " + k, rows[k]);
            for (int number : new int[] {0, 2, 4, 255}) {
                c.malformed("a name of " + number, Images.with(rows[k], places[k] + 3, number));
            }
            for (int n : new int[] {0, 1, 2, 5, 6, 7}) {
                c.malformed("byte " + n + " of a name", Images.with(rows[k], places[k] + n, 1));
                c.malformed("byte " + n + " of a name", Images.with(rows[k], places[k] + n, 'b'));
            }
        }
    }

    private static void attributePadding(Check c) {
        int[][] values = {{}, {1, 2, 0, 0}, {1, 2, 0, 0}, {0, 1, 0, 2}, {0, 0, 0, 1, 0, 0, 0, 2}};
        for (int type = 1; type <= 4; type++) {
            SlabImage x = new SlabImage();
            x.attribute(-1, 'a', type, 1, 2);
            c.due("seal()", x.seal(), 48 + values[type].length);
            c.dueImage("an attribute of " + type, x, Images.storeAttribute(type, 2, values[type]));
            c.opens("an attribute of " + type, Images.storeAttribute(type, 2, values[type]));
        }
        for (int type = 1; type <= 2; type++) {
            c.malformed("no bytes 0", Images.storeAttribute(type, 2, 1, 2));
            c.malformed("one byte 0", Images.storeAttribute(type, 2, 1, 2, 0));
            c.malformed("four bytes more", Images.storeAttribute(type, 2, 1, 2, 0, 0, 0, 0, 0, 0));
            c.malformed("a byte 1 behind the values", Images.storeAttribute(type, 2, 1, 2, 1, 0));
            c.malformed("a byte 1 behind a byte 0", Images.storeAttribute(type, 2, 1, 2, 0, 1));
        }
        c.malformed("bytes 0 behind SHORTs", Images.storeAttribute(3, 2, 0, 1, 0, 2, 0, 0, 0, 0));
        c.malformed("bytes 0 behind INTs", Images.storeAttribute(4, 2, 0, 0, 0, 1, 0, 0, 0, 2, 0, 0, 0, 0));
    }

    private static void cellOrder(Check c) {
        SlabImage x = new SlabImage();
        x.dimension('a', 2);
        x.dimension('b', 3);
        x.variable('A', 3, 0, 1);
        x.seal();
        for (int j = 2; j >= 0; j--) {
            for (int i = 1; i >= 0; i--) {
                x.put(0, i, j, 256 * i + j);
            }
        }
        int[] want = Images.oneVariable(0, new int[] {2, 3}, new int[] {0, 1}, 3, 12,
                0, 0, 0, 1, 0, 2, 1, 0, 1, 1, 1, 2);
        c.dueImage("two rows of three", x, want);
        SlabImage y = c.opens("two rows of three", want);
        c.due("the last of row 0", y.get(0, 0, 2), 2);
        c.due("the first of row 1", y.get(0, 1, 0), 256);
    }

    /** One to eight BYTEs, and one to eight SHORTs: as many bytes 0 as are missing, none when none is. */
    private static void cellPadding(Check c) {
        for (int width = 1; width <= 2; width++) {
            for (int length = 1; length <= 8; length++) {
                int[] lengths = {length};
                int[] axes = {0};
                int bytes = width * length;
                int padded = bytes + (4 - bytes % 4) % 4;
                int[] cells = new int[padded];
                for (int k = width - 1; k < bytes; k += width) {
                    cells[k] = k + 1;
                }
                int type = width == 1 ? 1 : 3;
                int[] row = Images.oneVariable(0, lengths, axes, type, padded, cells);
                c.due("the last cell", c.opens(length + " cells", row).get(0, length - 1, 0), bytes);
                for (int k = bytes; k < padded; k++) {
                    c.malformed("a byte 1 behind " + length, Images.with(row, row.length - padded + k, 1));
                }
                c.malformed("no bytes 0 told", Images.oneVariable(0, lengths, axes, type, padded - 1, cells));
                c.malformed("four bytes 0 more told", Images.oneVariable(0, lengths, axes, type, padded + 4, cells));
            }
        }
        c.malformed("no bytes 0", Images.oneVariable(0, new int[] {3}, new int[] {0}, 1, 4, 1, 2, 3));
        c.malformed("four bytes 0", Images.oneVariable(0, new int[] {4}, new int[] {0}, 1, 8, 1, 2, 3, 4, 0, 0, 0, 0));
        c.malformed("a begin too low", begin(79));
        c.malformed("a begin too high", begin(81));
        c.malformed("a begin four too high", begin(84));
        c.malformed("a begin of 0", begin(0));
        c.malformed("a begin with a higher byte", begin(80 + (1 << 24)));
        c.opens("the right begin", begin(80));
    }

    private static int[] begin(int told) {
        return new Bytes().start(0).words(10, 1).name('a').words(4).words(0, 0, 11, 1).name('A').words(1, 0, 0, 0)
                .words(1, 4, told).bytes(1, 2, 3, 4).all();
    }

    private static void recordsLast(Check c) {
        SlabImage x = new SlabImage();
        x.dimension('t', 0);
        x.dimension('a', 2);
        x.variable('A', 3, 0, -1);
        x.variable('B', 1, 1, -1);
        x.variable('C', 2, 0, -1);
        x.variable('D', 4, -1, -1);
        x.seal();
        x.put(0, 1, 0, 258);
        x.put(1, 1, 0, 3);
        x.put(2, 0, 0, 4);
        x.put(3, 0, 0, 5);
        int[] want = new Bytes().start(2).words(10, 2).name('t').words(0).name('a').words(2).words(0, 0).words(11, 4)
                .name('A').words(1, 0, 0, 0, 3, 4, 204).name('B').words(1, 1, 0, 0, 1, 4, 196)
                .name('C').words(1, 0, 0, 0, 2, 4, 208).name('D').words(0, 0, 0, 4, 4, 200)
                .bytes(-127, 3, 0, 0).words(5)
                .bytes(128, 1, 0, 0).bytes(4, 0, 0, 0).bytes(1, 2, 0, 0).bytes(0, 0, 0, 0).all();
        c.dueImage("records behind all others", x, want);
        c.due("begin(0)", x.begin(0), 204);
        c.due("begin(1)", x.begin(1), 196);
        c.due("begin(2)", x.begin(2), 208);
        c.due("begin(3)", x.begin(3), 200);
        SlabImage y = c.opens("records behind all others", want);
        c.due("get(0, 1, 0)", y.get(0, 1, 0), 258);
        c.due("get(3, 0, 0)", y.get(3, 0, 0), 5);
    }

    /** Two BYTE variables over t, of one and of three cells. */
    private static int[] twoGrowing(int records, int... cells) {
        return new Bytes().start(records).words(10, 2).name('t').words(0).name('a').words(3).words(0, 0).words(11, 2)
                .name('A').words(1, 0, 0, 0, 1, 4, 132).name('B').words(2, 0, 1, 0, 0, 1, 4, 136).bytes(cells).all();
    }

    private static void recordPadding(Check c) {
        SlabImage x = new SlabImage();
        x.dimension('t', 0);
        x.dimension('a', 3);
        x.variable('A', 1, 0, -1);
        x.variable('B', 1, 0, 1);
        c.due("seal()", x.seal(), 132);
        x.put(0, 1, 0, 6);
        x.put(1, 0, 2, 7);
        int[] want = twoGrowing(2, -127, 0, 0, 0, -127, -127, 7, 0, 6, 0, 0, 0, -127, -127, -127, 0);
        c.dueImage("two records", x, want);
        SlabImage y = c.opens("two records", want);
        c.due("get(0, 1, 0)", y.get(0, 1, 0), 6);
        c.due("get(1, 0, 2)", y.get(1, 0, 2), 7);
        for (int place : new int[] {133, 134, 135, 139, 141, 142, 143, 147}) {
            c.malformed("a byte 1 at " + place, Images.with(want, place, 1));
        }
        c.malformed("no bytes 0", twoGrowing(2, 1, 1, 1, 1, 1, 1, 1, 1));
        c.malformed("bytes 0 at the end alone", twoGrowing(2, 1, 1, 1, 1, 1, 1, 1, 1, 0, 0, 0, 0, 0, 0, 0, 0));
        c.malformed("the last bytes 0 missing", twoGrowing(1, 1, 0, 0, 0, 1, 1, 1));
    }

    private static void noRecordPadding(Check c) {
        for (int columns = 1; columns <= 8; columns++) {
            SlabImage x = new SlabImage();
            x.dimension('a', 0);
            x.dimension('b', columns);
            x.variable('A', 1, 0, 1);
            c.due("seal()", x.seal(), 96);
            int[] cells = new int[3 * columns];
            for (int k = 0; k < cells.length; k++) {
                x.put(0, k / columns, k % columns, k);
                cells[k] = k;
            }
            c.due("three records of " + columns, x.size(), 96 + 3 * columns);
            int padded = (columns + 3) / 4 * 4;
            int[] want = Images.oneVariable(3, new int[] {0, columns}, new int[] {0, 1}, 1, padded, cells);
            c.dueImage("three records of " + columns, x, want);
            SlabImage y = c.opens("three records of " + columns, want);
            c.due("the last cell", y.get(0, 2, columns - 1), 3 * columns - 1);
            c.due("a cell of record 1", y.get(0, 1, 0), columns);
        }
        c.malformed("bytes 0 in the last record", Images.oneGrowing(5, 2, 0, 1, 16));
        c.malformed("bytes 0 in every record", Images.oneGrowing(5, 2, 0, 1, 20));
        c.malformed("a byte missing", Images.oneGrowing(5, 2, 0, 1, 14));
    }

    /** Only one of four variables grows: its records have no bytes 0, the other variables have them. */
    private static void oneAmongOthers(Check c) {
        SlabImage x = new SlabImage();
        x.dimension('t', 0);
        x.variable('A', 1, -1, -1);
        x.variable('B', 1, 0, -1);
        x.variable('C', 3, -1, -1);
        x.seal();
        x.put(1, 4, 0, 5);
        int[] want = new Bytes().start(5).words(10, 1).name('t').words(0).words(0, 0).words(11, 3)
                .name('A').words(0, 0, 0, 1, 4, 144).name('B').words(1, 0, 0, 0, 1, 4, 152)
                .name('C').words(0, 0, 0, 3, 4, 148)
                .bytes(-127, 0, 0, 0).bytes(128, 1, 0, 0).bytes(-127, -127, -127, -127, 5).all();
        c.dueImage("five records of one byte", x, want);
        c.opens("five records of one byte", want);
        x.redefine();
        x.variable('D', 1, 0, -1);
        c.due("a second one brings the bytes 0 back", x.seal(), want.length + 36 - 5 + 5 * 8);
        c.due("the cell stays", x.get(1, 4, 0), 5);
    }

    private static void paddedSizes(Check c) {
        int[] lengths = {0, 3};
        int[] axes = {0, 1};
        c.opens("4 for three bytes", Images.oneVariable(1, lengths, axes, 1, 4, 1, 2, 3));
        c.malformed("3 for three bytes", Images.oneVariable(1, lengths, axes, 1, 3, 1, 2, 3));
        c.opens("4 without records", Images.oneVariable(0, lengths, axes, 1, 4));
        c.malformed("0 without records", Images.oneVariable(0, lengths, axes, 1, 0));
        c.malformed("3 without records", Images.oneVariable(0, lengths, axes, 1, 3));
        c.opens("8 for three SHORTs", Images.oneVariable(2, lengths, axes, 3, 8, 1, 2, 3, 4, 5, 6, 7, 8, 9, 10, 11, 12));
        c.malformed("all records", Images.oneVariable(2, lengths, axes, 3, 12, 1, 2, 3, 4, 5, 6, 7, 8, 9, 10, 11, 12));
        SlabImage x = new SlabImage();
        x.dimension('t', 0);
        x.variable('A', 2, 0, -1);
        x.seal();
        c.due("padded size 4, begin 80", x.eight(9), 4L << 32 | 80);
        x.put(0, 2, 0, 1);
        c.due("the same with three records", x.eight(9), 4L << 32 | 80);
        c.due("three bytes", x.size(), 83);
    }

    private static void beginWithoutRecord(Check c) {
        SlabImage x = new SlabImage();
        x.dimension('t', 0);
        x.dimension('a', 3);
        x.variable('A', 1, 0, 1);
        x.variable('B', 3, 0, 1);
        x.variable('C', 1, 1, -1);
        x.variable('D', 4, 0, -1);
        c.due("seal()", x.seal(), 212);
        c.due("the first of the record", x.begin(0), 212);
        c.due("behind its 4 bytes", x.begin(1), 216);
        c.due("the fixed one", x.begin(2), 208);
        c.due("behind 8 bytes more", x.begin(3), 224);
        int[] want = new Bytes().start(0).words(10, 2).name('t').words(0).name('a').words(3).words(0, 0).words(11, 4)
                .name('A').words(2, 0, 1, 0, 0, 1, 4, 212).name('B').words(2, 0, 1, 0, 0, 3, 8, 216)
                .name('C').words(1, 1, 0, 0, 1, 4, 208).name('D').words(1, 0, 0, 0, 4, 4, 224)
                .bytes(-127, -127, -127, 0).all();
        c.dueImage("no records", x, want);
        c.opens("no records", want);
        x.put(3, 0, 0, 1);
        c.due("the same with a record", x.begin(3), 224);
        c.due("the same with a record", x.begin(0), 212);
        x.put(3, 5, 0, 1);
        c.due("the same with six", x.begin(1), 216);
        c.malformed("begin 0 without records", Images.with(want, want.length - 5, 0));

        SlabImage y = new SlabImage();
        y.dimension('t', 0);
        y.variable('A', 1, 0, -1);
        y.seal();
        c.due("at the end of the image", y.begin(0), 80);
    }

    /** One BYTE variable over t: 80 bytes and one for each record. */
    private static SlabImage byBytes(int records) {
        SlabImage x = new SlabImage();
        x.dimension('t', 0);
        x.variable('A', 1, 0, -1);
        x.seal();
        if (records > 0) {
            x.put(0, records - 1, 0, 1);
        }
        return x;
    }

    private static SlabImage withAttribute(SlabImage x) {
        x.redefine();
        x.attribute(-1, 'a', 1, 0, 0);
        return x;
    }

    /** The sample with 796 bytes, and one attribute more for a while. */
    private static SlabImage tooBigOnce(boolean asked) {
        SlabImage x = Sample.data();
        x.put(3, 41, 0, 1);
        x.redefine();
        x.attribute(-1, 'z', 1, 0, 0);
        if (asked) {
            x.seal();
        }
        x.drop(-1, 'z');
        return x;
    }

    private static void mostBytesOfSeal(Check c) {
        c.due("799 bytes", withAttribute(byBytes(699)).seal(), 799);
        c.due("800 bytes", withAttribute(byBytes(700)).seal(), 800);
        c.refused("801 bytes", () -> withAttribute(byBytes(701)), SlabImage::seal, SlabImage.TOOBIG);
        c.dueAlike("seal() refused before a drop, or not", () -> tooBigOnce(true), () -> tooBigOnce(false));
        SlabImage x = withAttribute(byBytes(701));
        c.due("801 bytes", x.seal(), SlabImage.TOOBIG);
        c.due("still DEFINING", x.redefine(), SlabImage.MODE);
        c.due("the attribute is there", x.drop(-1, 'a'), 0);
        c.due("781 bytes", x.seal(), 781);
        c.due("the records are there", x.records(), 701);
        c.due("the cell is there", x.get(0, 700, 0), 1);
        SlabImage y = byBytes(720);
        y.redefine();
        y.variable('B', 4, 0, -1);
        c.due("far too many", y.seal(), SlabImage.TOOBIG);
        c.due("once more", y.seal(), SlabImage.TOOBIG);
        c.due("the records stay", y.records(), 720);
    }

    private static void mostBytesOfPut(Check c) {
        SlabImage x = byBytes(0);
        c.due("799 bytes", x.put(0, 718, 0, 1), 0);
        c.due("799 bytes", x.size(), 799);
        c.due("800 bytes", x.put(0, 719, 0, 1), 0);
        c.due("800 bytes", x.size(), 800);
        c.due("a put that does not grow", x.put(0, 719, 0, 2), 0);
        c.due("its value", x.get(0, 719, 0), 2);
        for (int records : new int[] {0, 1, 719, 720}) {
            for (int i : new int[] {720, 721, 1 << 16, 1 << 30, MAX - 1, MAX}) {
                c.refused("put to " + i, () -> byBytes(records), y -> y.put(0, i, 0, 9), SlabImage.TOOBIG);
            }
        }
        c.refused("a record variable of 12 bytes", Sample::data, y -> y.put(1, 42, 0, 1), SlabImage.TOOBIG);
        for (int shift = 26; shift <= 30; shift++) {
            int i = (1 << shift) - 1;
            c.refused("bytes that wrap, to " + i, Sample::data, y -> y.put(1, i, 0, 1), SlabImage.TOOBIG);
            c.refused("bytes that wrap, behind " + i, Sample::data, y -> y.put(3, i + 1, 0, 1), SlabImage.TOOBIG);
        }
        SlabImage z = Sample.data();
        c.due("room for records 2 to 41", z.put(1, 41, 0, 1), 0);
        c.due("796 bytes", z.size(), 292 + 42 * 12);
    }

    /** Room for four records of 128 bytes, two of them there; a draft too. */
    private static SlabImage wide() {
        SlabImage x = new SlabImage();
        x.dimension('t', 0);
        x.dimension('a', 8);
        for (int v = 0; v < 4; v++) {
            x.variable('A' + v, 4, 0, 1);
        }
        x.seal();
        x.put(1, 1, 7, 5);
        return Sample.withDraft(x, Images.scalars("AB"));
    }

    private static void mostBytesOfPutSlab(Check c) {
        SlabImage x = byBytes(0);
        x.select(0, 712, 8, 1);
        c.due("800 bytes", x.putSlab(0, 1, 1), 8);
        c.due("800 bytes", x.size(), 800);
        c.due("a slab that does not grow", x.putSlab(0, 2, 1), 8);
        c.due("its last value", x.get(0, 719, 0), 9);
        int[] one = {0, 1, 1};
        int[][] rows = {{713, 8, 1}, {706, 8, 2}, {720, 1, 1}, {664, 8, 8}, {MAX, 1, 1}, {MAX, 8, 8}, {MAX - 7, 8, 1}};
        for (int[] row : rows) {
            c.refused("putSlab from " + row[0], () -> Sample.withSelections(byBytes(5), row, one),
                    y -> y.putSlab(0, 9, 0), SlabImage.TOOBIG);
        }
        for (int shift = 26; shift <= 30; shift++) {
            int[] row = {(1 << shift) - 2, 2, 1};
            c.refused("bytes that wrap, from " + row[0], () -> Sample.withSelections(Sample.data(), row, one),
                    y -> y.putSlab(1, 9, 0), SlabImage.TOOBIG);
        }
        for (int[] row : new int[][] {{3, 2, 1}, {4, 1, 3}, {0, 2, 4}, {1, 3, 3}}) {
            c.refused("records of 128 bytes from " + row[0],
                    () -> Sample.withSelections(wide(), row, new int[] {2, 3, 2}),
                    y -> y.putSlab(2, 9, 0), SlabImage.TOOBIG);
        }
        SlabImage z = Sample.withSelections(Sample.data(), new int[] {41, 1, 1}, one);
        c.due("room for records 2 to 41", z.putSlab(1, 9, 0), 1);
        c.refused("one more", () -> Sample.withSelections(Sample.data(), new int[] {41, 2, 1}, one),
                y -> y.putSlab(1, 9, 0), SlabImage.TOOBIG);
    }

    private static void mostBytesOfOpen(Check c) {
        int[] lengths = {0};
        int[] axes = {0};
        int[] cells = new int[720];
        cells[719] = 7;
        int[] row = Images.oneVariable(720, lengths, axes, 1, 4, cells);
        c.due("bytes of the draft", row.length, 800);
        SlabImage x = c.opens("800 bytes", row);
        c.due("the last record", x.get(0, 719, 0), 7);
        c.malformed("a record more told", Images.oneVariable(721, lengths, axes, 1, 4, cells));
        c.malformed("a record less told", Images.oneVariable(719, lengths, axes, 1, 4, cells));
        for (int records : new int[] {MIN, MIN + 720, -720, -1, MAX}) {
            c.malformed(records + " records told", Images.oneVariable(records, lengths, axes, 1, 4, cells));
        }
        // Records of 4 bytes: a number that is right but for what ints lose by wrapping.
        c.opens("2 records of 4 bytes", Images.oneVariable(2, lengths, axes, 4, 4, 0, 0, 0, 1, 0, 0, 0, 2));
        c.malformed("2 and 2 to the 30th", Images.oneVariable(2 + (1 << 30), lengths, axes, 4, 4, 0, 0, 0, 1, 0, 0, 0, 2));
        c.malformed("2 and 2 to the 31st", Images.oneVariable(2 + MIN, lengths, axes, 4, 4, 0, 0, 0, 1, 0, 0, 0, 2));
    }

    private static void lists(Check c) {
        SlabImage x = new SlabImage();
        x.variable('A', 4, -1, -1);
        x.variable('B', 4, -1, -1);
        c.due("the store's", x.attribute(-1, 'a', 4, 1, 2), 0);
        c.due("variable 0's", x.attribute(0, 'b', 4, 3, 4), 0);
        c.due("variable 1's", x.attribute(1, 'c', 4, 5, 6), 0);
        x.seal();
        c.dueImage("three lists", x, new Bytes().start(0).words(0, 0).words(12, 1).name('a').words(4, 2, 1, 2)
                .words(11, 2).name('A').words(0, 12, 1).name('b').words(4, 2, 3, 4).words(4, 4, 168)
                .name('B').words(0, 12, 1).name('c').words(4, 2, 5, 6).words(4, 4, 172)
                .words(-2147483647, -2147483647).all());
        x.redefine();
        c.due("no a in variable 0's", x.drop(0, 'a'), SlabImage.NOTHING);
        c.due("no b in the store's", x.drop(-1, 'b'), SlabImage.NOTHING);
        c.due("no b in variable 1's", x.drop(1, 'b'), SlabImage.NOTHING);
        c.due("c out of variable 1's", x.drop(1, 'c'), 0);
        c.due("a out of the store's", x.drop(-1, 'a'), 0);
        c.due("b out of variable 0's", x.drop(0, 'b'), 0);
    }
}
