/** Promises 9 to 14 in ordinary runs: cells, slabs and records. Their edges stand in CellEdgesTest. */
public final class CellsTest {
    private static final int MIN = Integer.MIN_VALUE;
    private static final int MAX = Integer.MAX_VALUE;

    public static void main(String[] args) {
        Check check = new Check();
        check.promise(9, CellsTest::put);
        check.promise(9, CellsTest::putGrows);
        check.promise(9, CellsTest::putUntilFull);
        check.promise(10, CellsTest::get);
        check.promise(11, CellsTest::select);
        check.promise(12, CellsTest::putSlab);
        check.promise(12, CellsTest::putSlabGrows);
        check.promise(13, CellsTest::getSlab);
        check.promise(14, CellsTest::records);
        check.end();
    }

    /** 0 and 1 are fixed (SHORT over a and b, BYTE alone), 2 and 3 grow (TEXT over t and a, INT over t). */
    private static SlabImage mixed() {
        SlabImage x = new SlabImage();
        x.dimension('a', 3);
        x.dimension('b', 4);
        x.dimension('t', 0);
        x.variable('A', 3, 0, 1);
        x.variable('B', 1, -1, -1);
        x.variable('C', 2, 2, 0);
        x.variable('D', 4, 2, -1);
        x.seal();
        return x;
    }

    private static void put(Check c) {
        SlabImage x = mixed();
        c.due("no variable 4", x.put(4, 0, 0, 0), SlabImage.NOTHING);
        c.due("no variable -1", x.put(-1, 0, 0, 0), SlabImage.NOTHING);
        c.due("NOTHING before OUTSIDE", x.put(4, -1, 0, 0), SlabImage.NOTHING);
        c.due("i is -1", x.put(0, -1, 0, 0), SlabImage.OUTSIDE);
        c.due("i is 3", x.put(0, 3, 0, 0), SlabImage.OUTSIDE);
        c.due("j is -1", x.put(0, 0, -1, 0), SlabImage.OUTSIDE);
        c.due("j is 4", x.put(0, 0, 4, 0), SlabImage.OUTSIDE);
        c.due("j is MAX", x.put(0, 1, MAX, 0), SlabImage.OUTSIDE);
        c.due("no first axis", x.put(1, 1, 0, 0), SlabImage.OUTSIDE);
        c.due("no second axis", x.put(1, 0, 1, 0), SlabImage.OUTSIDE);
        c.due("a record's i is -1", x.put(2, -1, 0, 0), SlabImage.OUTSIDE);
        c.due("a record's i is MIN", x.put(2, MIN, 0, 0), SlabImage.OUTSIDE);
        c.due("a record's j is 3", x.put(2, 0, 3, 0), SlabImage.OUTSIDE);
        c.due("a record's absent j", x.put(3, 0, 1, 0), SlabImage.OUTSIDE);
        c.due("OUTSIDE before RANGE", x.put(0, 3, 0, 99999), SlabImage.OUTSIDE);
        c.due("RANGE before TOOBIG", x.put(2, 5000, 0, 256), SlabImage.RANGE);
        c.due("nothing grew", x.records(), 0);
        for (int i = 0; i < 3; i++) {
            for (int j = 0; j < 4; j++) {
                c.due("put(0, " + i + ", " + j + ")", x.put(0, i, j, 10 * i + j - 15), 0);
            }
        }
        for (int i = 0; i < 3; i++) {
            for (int j = 0; j < 4; j++) {
                c.due("get(0, " + i + ", " + j + ")", x.get(0, i, j), 10 * i + j - 15);
            }
        }
        c.due("put of the lone cell", x.put(1, 0, 0, 127), 0);
        c.due("put of it again", x.put(1, 0, 0, -128), 0);
        c.due("the lone cell", x.get(1, 0, 0), -128);
    }

    private static void putGrows(Check c) {
        SlabImage x = mixed();
        int empty = x.size();
        c.due("put into record 2", x.put(2, 2, 1, 200), 0);
        c.due("three records", x.records(), 3);
        c.due("their bytes", x.size(), empty + 3 * 8);
        c.due("the cell", x.get(2, 2, 1), 200);
        c.due("fill beside it", x.get(2, 2, 2), 0);
        c.due("fill in the other variable", x.get(3, 2, 0), -2147483647);
        c.due("fill in record 0", x.get(3, 0, 0), -2147483647);
        c.due("put into record 1", x.put(3, 1, 0, -1), 0);
        c.due("no more records", x.records(), 3);
        c.due("put of a fixed cell", x.put(0, 2, 3, 1), 0);
        c.due("still three", x.records(), 3);
        c.due("too far", x.put(3, 1000, 0, 0), SlabImage.TOOBIG);
        c.due("MAX", x.put(3, MAX, 0, 0), SlabImage.TOOBIG);
        c.due("MAX in the wider one", x.put(2, MAX, 2, 0), SlabImage.TOOBIG);
        c.due("a number of bytes that wraps", x.put(3, (1 << 29) - 1, 0, 0), SlabImage.TOOBIG);
        c.due("still three", x.records(), 3);
        c.due("the cell stays", x.get(3, 1, 0), -1);
    }

    /** One record variable of one byte: as many records as there is room for. */
    private static void putUntilFull(Check c) {
        SlabImage x = new SlabImage();
        x.dimension('t', 0);
        x.variable('A', 1, 0, -1);
        c.due("seal()", x.seal(), 80);
        c.due("one too many", x.put(0, 720, 0, 1), SlabImage.TOOBIG);
        c.due("the last one", x.put(0, 719, 0, 1), 0);
        c.due("size()", x.size(), 800);
        c.due("records()", x.records(), 720);
        c.due("the last cell", x.get(0, 719, 0), 1);
        c.due("the one before", x.get(0, 718, 0), -127);
        c.due("eight(99)", x.eight(99), 0x8181818181818101L);
        c.due("beyond it", x.put(0, 720, 0, 1), SlabImage.TOOBIG);
        x.redefine();
        c.due("four more", x.variable('B', 4, 0, -1), 1);
        c.due("too big", x.seal(), SlabImage.TOOBIG);
        c.due("records stay", x.records(), 720);
    }

    private static void get(Check c) {
        SlabImage x = mixed();
        c.due("no variable 4", x.get(4, 0, 0), SlabImage.NOVALUE);
        c.due("no variable -1", x.get(-1, 0, 0), SlabImage.NOVALUE);
        c.due("i is -1", x.get(0, -1, 0), SlabImage.NOVALUE);
        c.due("i is 3", x.get(0, 3, 0), SlabImage.NOVALUE);
        c.due("j is -1", x.get(0, 1, -1), SlabImage.NOVALUE);
        c.due("j is 4", x.get(0, 1, 4), SlabImage.NOVALUE);
        c.due("the last cell", x.get(0, 2, 3), -32767);
        c.due("no record", x.get(2, 0, 0), SlabImage.NOVALUE);
        x.put(3, 0, 0, 5);
        c.due("a record", x.get(2, 0, 2), 0);
        c.due("no cell in it", x.get(2, 0, 3), SlabImage.NOVALUE);
        c.due("no next record", x.get(2, 1, 0), SlabImage.NOVALUE);
        c.due("record -1", x.get(2, -1, 0), SlabImage.NOVALUE);
        c.due("record MAX", x.get(3, MAX, 0), SlabImage.NOVALUE);
        c.due("getting grows nothing", x.records(), 1);
        x.redefine();
        c.due("DEFINING", x.get(3, 0, 0), SlabImage.NOVALUE);
    }

    private static void select(Check c) {
        SlabImage x = mixed();
        c.due("axis 2", x.select(2, 0, 1, 1), SlabImage.NOTHING);
        c.due("axis -1", x.select(-1, 0, 1, 1), SlabImage.NOTHING);
        c.due("NOTHING before BAD", x.select(2, -1, 0, 0), SlabImage.NOTHING);
        c.due("a selection", x.select(0, 1, 2, 1), 0);
        c.due("start -1", x.select(0, -1, 1, 1), SlabImage.BAD);
        c.due("count 0", x.select(0, 0, 0, 1), SlabImage.BAD);
        c.due("count 9", x.select(0, 0, 9, 1), SlabImage.BAD);
        c.due("stride 0", x.select(0, 0, 1, 0), SlabImage.BAD);
        c.due("stride 9", x.select(0, 0, 1, 9), SlabImage.BAD);
        c.due("count MIN", x.select(1, 0, MIN, 1), SlabImage.BAD);
        c.due("refusals changed nothing", x.putSlab(0, 1, 1), 2);
        c.due("its first cell", x.get(0, 1, 0), 1);
        c.due("its second cell", x.get(0, 2, 0), 2);
        c.due("the greatest", x.select(1, MAX, 8, 8), 0);
        c.due("a slab outside", x.putSlab(0, 1, 1), SlabImage.OUTSIDE);
        c.due("the other axis", x.select(1, 3, 1, 8), 0);
        c.due("a slab", x.putSlab(0, 8, 1), 2);
        c.due("its cell", x.get(0, 2, 3), 9);
        x.redefine();
        c.due("DEFINING", x.select(1, 0, 4, 1), 0);
        x.seal();
        c.due("it stays", x.putSlab(0, 0, 0), 8);
    }

    private static void putSlab(Check c) {
        SlabImage x = mixed();
        x.select(0, 0, 2, 2);
        x.select(1, 1, 2, 2);
        c.due("putSlab", x.putSlab(0, 100, -7), 4);
        int[] want = {100, 93, 86, 79};
        int n = 0;
        for (int i = 0; i < 3; i++) {
            for (int j = 0; j < 4; j++) {
                boolean in = i != 1 && j % 2 == 1;
                c.due("cell " + i + ", " + j, x.get(0, i, j), in ? want[n++] : -32767);
            }
        }
        c.due("an alone one", x.putSlab(1, 5, 1000), 1);
        c.due("its cell", x.get(1, 0, 0), 5);

        SlabImage y = new SlabImage();
        y.dimension('a', 8);
        y.variable('A', 4, 0, 0);
        y.seal();
        y.select(0, 0, 8, 1);
        y.select(1, 0, 8, 1);
        c.due("sixty-four", y.putSlab(0, MAX, MAX), 64);
        for (int k = 0; k < 64; k++) {
            c.due("wrapped " + k, y.get(0, k / 8, k % 8), MAX + k * MAX);
        }
    }

    private static void putSlabGrows(Check c) {
        SlabImage x = mixed();
        int room = (800 - x.size()) / 8;
        x.select(0, 1, 3, 2);
        x.select(1, 0, 2, 2);
        c.due("a slab", x.putSlab(2, 10, 1), 6);
        c.due("six records", x.records(), 6);
        c.due("its last cell", x.get(2, 5, 2), 15);
        c.due("fill between", x.get(2, 4, 2), 0);
        c.due("fill in the other variable", x.get(3, 5, 0), -2147483647);
        x.select(0, 3, 2, 1);
        c.due("a slab inside", x.putSlab(3, 1, 1), 2);
        c.due("still six", x.records(), 6);
        x.select(0, 0, 8, 2);
        c.due("a slab that grows a part", x.putSlab(3, 100, 1), 8);
        c.due("fifteen records", x.records(), 15);
        c.due("its cell", x.get(3, 14, 0), 107);
        x.select(0, room - 7, 8, 1);
        c.due("one record too many", x.putSlab(3, 0, 0), SlabImage.TOOBIG);
        c.due("still fifteen", x.records(), 15);
        x.select(0, room - 8, 8, 1);
        c.due("the last record", x.putSlab(3, 0, 0), 8);
        c.due("full", x.records(), room);
    }

    private static void getSlab(Check c) {
        SlabImage x = mixed();
        for (int i = 0; i < 3; i++) {
            for (int j = 0; j < 4; j++) {
                x.put(0, i, j, 10 * i + j);
            }
        }
        x.select(0, 0, 2, 2);
        x.select(1, 1, 3, 1);
        int[] want = {1, 2, 3, 21, 22, 23};
        for (int n = 0; n < 6; n++) {
            c.due("getSlab(0, " + n + ")", x.getSlab(0, n), want[n]);
        }
        c.due("no cell 6", x.getSlab(0, 6), SlabImage.NOVALUE);
        c.due("no cell -1", x.getSlab(0, -1), SlabImage.NOVALUE);
        c.due("no cell MIN", x.getSlab(0, MIN), SlabImage.NOVALUE);
        c.due("no cell MAX", x.getSlab(0, MAX), SlabImage.NOVALUE);
        c.due("no variable 4", x.getSlab(4, 0), SlabImage.NOVALUE);
        c.due("no variable -1", x.getSlab(-1, 0), SlabImage.NOVALUE);
        c.due("one without axes", x.getSlab(1, 0), -127);
        c.due("its cell 1", x.getSlab(1, 1), SlabImage.NOVALUE);
        c.due("no records", x.getSlab(3, 0), SlabImage.NOVALUE);
        x.put(3, 1, 0, 5);
        c.due("a record is missing", x.getSlab(3, 0), SlabImage.NOVALUE);
        x.put(3, 2, 0, 6);
        c.due("all are there", x.getSlab(3, 1), 6);
        c.due("no second axis", x.getSlab(3, 2), SlabImage.NOVALUE);
        c.due("a record's j outside", x.getSlab(2, 0), SlabImage.NOVALUE);
        x.select(1, 0, 4, 2);
        c.due("a j outside", x.getSlab(0, 0), SlabImage.NOVALUE);
        x.select(1, 0, 1, 1);
        x.select(0, MAX, 2, 1);
        c.due("i beyond the ints", x.getSlab(3, 1), SlabImage.NOVALUE);
        c.due("i beyond the ints, fixed", x.getSlab(0, 0), SlabImage.NOVALUE);
        x.select(0, 0, 1, 1);
        x.redefine();
        c.due("DEFINING", x.getSlab(0, 0), SlabImage.NOVALUE);
    }

    private static void records(Check c) {
        SlabImage x = new SlabImage();
        c.due("at first", x.records(), 0);
        x.dimension('t', 0);
        x.variable('A', 1, -1, -1);
        x.seal();
        x.put(0, 0, 0, 1);
        c.due("without record variable", x.records(), 0);
        x.redefine();
        x.variable('B', 1, 0, -1);
        c.due("DEFINING", x.records(), 0);
        x.seal();
        c.due("none yet", x.records(), 0);
        x.put(1, 6, 0, 1);
        c.due("seven", x.records(), 7);
        x.redefine();
        c.due("seven, DEFINING", x.records(), 7);
        c.due("open() of a store without records",
                Bytes.open(x, new Bytes().start(0).words(0, 0, 0, 0, 0, 0).all()), 32);
        c.due("none again", x.records(), 0);
    }
}
