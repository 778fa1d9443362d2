/** The boundary cases that promises 9 to 14 name, sentence by sentence. */
public final class CellEdgesTest {
    private static final int MIN = Integer.MIN_VALUE;
    private static final int MAX = Integer.MAX_VALUE;
    private static final int[] ONE = {0, 1, 1};
    private static final int[] TWO = {0, 2, 1};

    public static void main(String[] args) {
        Check check = new Check();
        check.sentence("9: the number of records becomes i + 1 when i is not below it", CellEdgesTest::putGrows);
        check.sentence("9: all cells of all record variables in the new records hold fill values", CellEdgesTest::putFills);
        check.sentence("9: NOTHING when there is no variable v", CellEdgesTest::putNoVariable);
        check.sentence("9: OUTSIDE when there is no such cell", CellEdgesTest::putOutside);
        check.sentence("9: for a record variable, i may be any number from 0 on", CellEdgesTest::putAnyRecord);
        check.sentence("9: RANGE when x is no value of the type", CellEdgesTest::putRange);
        check.sentence("10: NOVALUE when there is no variable v", CellEdgesTest::getNoVariable);
        check.sentence("10: NOVALUE when there is no such cell", CellEdgesTest::getNoCell);
        check.sentence("11: NOTHING when axis is not 0 or 1", CellEdgesTest::selectNoAxis);
        check.sentence("11: BAD when start is negative", CellEdgesTest::selectStart);
        check.sentence("11: BAD when count is not 1 .. 8", CellEdgesTest::selectCount);
        check.sentence("11: BAD when stride is not 1 .. 8", CellEdgesTest::selectStride);
        check.sentence("11: start, start + stride, .., as many as count says", CellEdgesTest::selectNumbers);
        check.sentence("12: in the order of i, and for equal i of j", CellEdgesTest::slabOrder);
        check.sentence("12: for an axis that v has not: 0 alone", CellEdgesTest::slabAbsentAxes);
        check.sentence("12: x + n * step as ints wrap", CellEdgesTest::slabWraps);
        check.sentence("12: it grows to the greatest of the numbers i and 1", CellEdgesTest::slabGrows);
        check.sentence("12: the new records hold fill values", CellEdgesTest::slabFills);
        check.sentence("12: NOTHING when there is no variable v", CellEdgesTest::slabNoVariable);
        check.sentence("12: OUTSIDE when one of the cells does not exist", CellEdgesTest::slabOutside);
        check.sentence("12: for a record variable, i may be any number from 0 on", CellEdgesTest::slabAnyRecord);
        check.sentence("12: RANGE when one of the values is none of the type", CellEdgesTest::slabRange);
        check.sentence("13: NOVALUE when there is no variable v", CellEdgesTest::getSlabNoVariable);
        check.sentence("13: NOVALUE when one of the cells of the slab does not exist", CellEdgesTest::getSlabNoCells);
        check.sentence("13: NOVALUE when the slab has no cell n", CellEdgesTest::getSlabNoCell);
        check.sentence("14: the number of records", CellEdgesTest::records);
        check.end();
    }

    private static void putGrows(Check c) {
        SlabImage x = Sample.data();
        c.due("into record 0", x.put(1, 0, 0, 1), 0);
        c.due("two records", x.records(), 2);
        c.due("into record 1, the last", x.put(1, 1, 0, 1), 0);
        c.due("still two", x.records(), 2);
        c.due("into record 2", x.put(1, 2, 0, 1), 0);
        c.due("three", x.records(), 3);
        c.due("into record 5 of the other variable", x.put(3, 5, 0, 1), 0);
        c.due("six", x.records(), 6);
        c.due("292 bytes and 12 for each", x.size(), 292 + 6 * 12);
        c.due("into record 3", x.put(1, 3, 2, 1), 0);
        c.due("still six", x.records(), 6);
        c.due("into a variable that does not grow", x.put(0, 2, 1, 1), 0);
        c.due("still six", x.records(), 6);
        c.due("in the image", x.eight(0), 0x4752440100000006L);
    }

    private static void putFills(Check c) {
        SlabImage x = Sample.data();
        x.put(1, 4, 1, 77);
        for (int i = 2; i < 5; i++) {
            for (int j = 0; j < 3; j++) {
                c.due("B " + i + ", " + j, x.get(1, i, j), i == 4 && j == 1 ? 77 : -32767);
            }
            c.due("D " + i, x.get(3, i, 0), 0);
        }
        c.due("old cells stay", x.get(1, 1, 1), 303);
        c.due("old cells stay", x.get(3, 1, 0), 'D');
        SlabImage y = Sample.data();
        y.put(3, 2, 0, 9);
        c.due("B beside D", y.get(1, 2, 0), -32767);
        c.due("B beside D", y.get(1, 2, 2), -32767);
    }

    private static void putNoVariable(Check c) {
        for (int v : new int[] {MIN, -2, -1, 4, 5, MAX}) {
            c.refused("variable " + v, Sample::data, x -> x.put(v, 0, 0, 1), SlabImage.NOTHING);
            c.refused("of none", CellEdgesTest::noVariables, x -> x.put(v, 0, 0, 1), SlabImage.NOTHING);
        }
        c.due("the last one", Sample.data().put(3, 0, 0, 1), 0);
    }

    private static SlabImage noVariables() {
        SlabImage x = new SlabImage();
        x.seal();
        return x;
    }

    private static void putOutside(Check c) {
        for (int i : new int[] {MIN, -1, 3, 4, 1 << 30, 1 << 31, MAX}) {
            c.refused("A has no i " + i, Sample::data, x -> x.put(0, i, 0, 1), SlabImage.OUTSIDE);
        }
        for (int j : new int[] {MIN, -1, 2, 3, MAX}) {
            c.refused("A has no j " + j, Sample::data, x -> x.put(0, 0, j, 1), SlabImage.OUTSIDE);
            c.refused("nor in row 1", Sample::data, x -> x.put(0, 1, j, 1), SlabImage.OUTSIDE);
        }
        for (int j : new int[] {MIN, -1, 3, MAX}) {
            c.refused("B has no j " + j, Sample::data, x -> x.put(1, 1, j, 1), SlabImage.OUTSIDE);
            c.refused("nor in a record to come", Sample::data, x -> x.put(1, 3, j, 1), SlabImage.OUTSIDE);
        }
        c.due("the last cell of A", Sample.data().put(0, 2, 1, 1), 0);
        c.due("the last cell of B", Sample.data().put(1, 1, 2, 1), 0);
    }

    private static void putAnyRecord(Check c) {
        for (int i : new int[] {MIN, MIN + 1, -2, -1}) {
            c.refused("i " + i, Sample::data, x -> x.put(1, i, 0, 1), SlabImage.OUTSIDE);
        }
        for (int i : new int[] {0, 1, 2, 3, 8, 9, 41}) {
            SlabImage x = Sample.data();
            c.due("i " + i, x.put(1, i, 0, 123), 0);
            c.due("the cell", x.get(1, i, 0), 123);
            c.due("the records", x.records(), Math.max(2, i + 1));
        }
        for (int i : new int[] {42, 1 << 28, MAX}) {
            c.refused("i " + i, Sample::data, x -> x.put(1, i, 0, 1), SlabImage.TOOBIG);
        }
    }

    private static void putRange(Check c) {
        int[][] wrong = {{0, 128}, {0, -129}, {1, 32768}, {1, -32769}, {3, 256}, {3, -1}};
        for (int[] w : wrong) {
            c.refused("put of " + w[1], Sample::data, x -> x.put(w[0], 1, 0, w[1]), SlabImage.RANGE);
        }
        c.refused("into a record to come", Sample::data, x -> x.put(3, 3, 0, 256), SlabImage.RANGE);
        c.due("any int into C", Sample.data().put(2, 0, 0, MIN), 0);
        c.due("any int into C", Sample.data().put(2, 0, 0, MAX), 0);
    }

    private static void getNoVariable(Check c) {
        for (int v : new int[] {MIN, -2, -1, 4, 5, MAX}) {
            c.refused("variable " + v, Sample::data, x -> x.get(v, 0, 0), SlabImage.NOVALUE);
            c.refused("of none", CellEdgesTest::noVariables, x -> x.get(v, 0, 0), SlabImage.NOVALUE);
        }
    }

    private static void getNoCell(Check c) {
        for (int i : new int[] {MIN, -1, 3, 4, 1 << 30, 1 << 31, MAX}) {
            c.refused("A has no i " + i, Sample::data, x -> x.get(0, i, 0), SlabImage.NOVALUE);
        }
        for (int j : new int[] {MIN, -1, 2, MAX}) {
            c.refused("A has no j " + j, Sample::data, x -> x.get(0, 0, j), SlabImage.NOVALUE);
            c.refused("A has no 1, j " + j, Sample::data, x -> x.get(0, 1, j), SlabImage.NOVALUE);
        }
        for (int i : new int[] {MIN, -1, 2, 3, 41, 42, 1 << 30, MAX}) {
            c.refused("B has no record " + i, Sample::data, x -> x.get(1, i, 0), SlabImage.NOVALUE);
            c.refused("D has no record " + i, Sample::data, x -> x.get(3, i, 0), SlabImage.NOVALUE);
        }
        for (int j : new int[] {MIN, -1, 3, MAX}) {
            c.refused("B has no j " + j, Sample::data, x -> x.get(1, 0, j), SlabImage.NOVALUE);
        }
        SlabImage x = Sample.data();
        c.due("the last cell of A", x.get(0, 2, 1), -127);
        c.due("the last cell of B", x.get(1, 1, 2), -32767);
        c.due("getting grows nothing", x.records(), 2);
    }

    /** No number that a refused select() names is selected here already. */
    private static SlabImage selected() {
        return Sample.withSelections(Sample.data(), new int[] {3, 4, 3}, new int[] {2, 3, 2});
    }

    private static void selectNoAxis(Check c) {
        for (int axis : new int[] {MIN, -2, -1, 2, 3, 256, MAX}) {
            c.refused("axis " + axis, CellEdgesTest::selected, x -> x.select(axis, 1, 1, 1), SlabImage.NOTHING);
            c.refused("axis " + axis, Sample::defining, x -> x.select(axis, 1, 1, 1), SlabImage.NOTHING);
        }
        SlabImage x = Sample.data();
        c.due("axis 0", x.select(0, 2, 1, 1), 0);
        c.due("axis 1", x.select(1, 1, 1, 1), 0);
        c.due("one cell", x.putSlab(0, 99, 0), 1);
        c.due("the cell", x.get(0, 2, 1), 99);
    }

    private static void selectStart(Check c) {
        for (int axis = 0; axis < 2; axis++) {
            int number = axis;
            for (int start : new int[] {MIN, -2, -1}) {
                c.refused("start " + start, CellEdgesTest::selected, x -> x.select(number, start, 1, 1), SlabImage.BAD);
            }
            for (int start : new int[] {0, 1, 8, 9, 800, MAX}) {
                c.due("start " + start, Sample.data().select(axis, start, 1, 1), 0);
                c.due("start " + start + ", eight", Sample.data().select(axis, start, 8, 8), 0);
            }
        }
    }

    private static void selectCount(Check c) {
        for (int axis = 0; axis < 2; axis++) {
            int number = axis;
            for (int count : new int[] {MIN, -1, 0, 9, 10, 256 + 1, MAX}) {
                c.refused("count " + count, CellEdgesTest::selected, x -> x.select(number, 0, count, 1), SlabImage.BAD);
            }
        }
        for (int count = 1; count <= 8; count++) {
            SlabImage x = eightByEight();
            c.due("count " + count, x.select(0, 0, count, 1), 0);
            c.due("as many cells", x.putSlab(0, 1, 0), count);
            SlabImage y = eightByEight();
            c.due("count " + count, y.select(1, 0, count, 1), 0);
            c.due("as many cells", y.putSlab(0, 1, 0), count);
        }
    }

    private static SlabImage eightByEight() {
        SlabImage x = new SlabImage();
        x.dimension('a', 8);
        x.variable('A', 4, 0, 0);
        x.seal();
        return x;
    }

    private static void selectStride(Check c) {
        for (int axis = 0; axis < 2; axis++) {
            int number = axis;
            for (int stride : new int[] {MIN, -1, 0, 9, 10, 256 + 1, MAX}) {
                c.refused("stride " + stride, CellEdgesTest::selected, x -> x.select(number, 0, 2, stride), SlabImage.BAD);
                c.refused("for one number too", CellEdgesTest::selected, x -> x.select(number, 0, 1, stride), SlabImage.BAD);
            }
        }
        for (int stride = 1; stride <= 7; stride++) {
            SlabImage x = eightByEight();
            c.due("stride " + stride, x.select(0, 0, 2, stride), 0);
            c.due("two cells", x.putSlab(0, 1, 1), 2);
            c.due("the second", x.get(0, stride, 0), 2);
        }
        SlabImage x = eightByEight();
        c.due("stride 8", x.select(0, 0, 2, 8), 0);
        c.due("it goes beyond", x.putSlab(0, 1, 1), SlabImage.OUTSIDE);
        c.due("stride 8 of one number", x.select(0, 7, 1, 8), 0);
        c.due("one cell", x.putSlab(0, 1, 1), 1);
        c.due("the cell", x.get(0, 7, 0), 1);
        SlabImage y = Sample.withSelections(Sample.data(), new int[] {1, 2, 8}, ONE);
        c.due("stride 8 of records", y.putSlab(3, 1, 1), 2);
        c.due("the second", y.get(3, 9, 0), 2);
    }

    private static void selectNumbers(Check c) {
        SlabImage x = Sample.withSelections(eightByEight(), new int[] {1, 3, 2}, new int[] {2, 2, 5});
        c.due("six cells", x.putSlab(0, 1, 1), 6);
        int n = 0;
        for (int i = 0; i < 8; i++) {
            for (int j = 0; j < 8; j++) {
                boolean in = (i == 1 || i == 3 || i == 5) && (j == 2 || j == 7);
                n += in ? 1 : 0;
                c.due("cell " + i + ", " + j, x.get(0, i, j), in ? n : -2147483647);
            }
        }
        c.due("axis 0 alone", x.select(0, 7, 1, 1), 0);
        c.due("axis 1 is as before", x.putSlab(0, 50, 1), 2);
        c.due("7, 2", x.get(0, 7, 2), 50);
        c.due("7, 7", x.get(0, 7, 7), 51);
        c.due("axis 1 alone", x.select(1, 0, 1, 1), 0);
        c.due("axis 0 is as before", x.getSlab(0, 0), -2147483647);
        c.due("one cell", x.putSlab(0, 60, 1), 1);
        c.due("7, 0", x.get(0, 7, 0), 60);
    }

    private static void slabOrder(Check c) {
        SlabImage x = Sample.withSelections(Sample.data(), new int[] {0, 3, 1}, TWO);
        c.due("six cells", x.putSlab(0, 20, 3), 6);
        for (int n = 0; n < 6; n++) {
            c.due("cell " + n, x.get(0, n / 2, n % 2), 20 + 3 * n);
            c.due("cell " + n, x.getSlab(0, n), 20 + 3 * n);
        }
        SlabImage y = Sample.withSelections(Sample.data(), TWO, new int[] {0, 3, 1});
        c.due("six cells of records", y.putSlab(1, 20, -3), 6);
        for (int n = 0; n < 6; n++) {
            c.due("cell " + n, y.get(1, n / 3, n % 3), 20 - 3 * n);
        }
    }

    private static void slabAbsentAxes(Check c) {
        int[] far = {MAX, 8, 8};
        int[] wide = {5, 3, 2};
        SlabImage x = Sample.withSelections(Sample.data(), far, far);
        c.due("C whatever is selected", x.putSlab(2, 5, 1000), 1);
        c.due("its cell", x.get(2, 0, 0), 5);
        c.due("its slab", x.getSlab(2, 0), 5);
        c.due("no second cell", x.getSlab(2, 1), SlabImage.NOVALUE);
        SlabImage y = Sample.withSelections(Sample.data(), TWO, wide);
        c.due("D whatever is selected of j", y.putSlab(3, 5, 1), 2);
        c.due("cell 0", y.get(3, 0, 0), 5);
        c.due("cell 1", y.get(3, 1, 0), 6);
        c.due("its slab", y.getSlab(3, 1), 6);
        c.due("no third cell", y.getSlab(3, 2), SlabImage.NOVALUE);
    }

    private static void slabWraps(Check c) {
        int[][] runs = {{MAX, 1}, {MIN, -1}, {0, MAX}, {1, MIN}, {5, 1 << 30}, {-7, 1 << 26}, {MAX, MAX}, {MIN, MIN}};
        for (int[] r : runs) {
            SlabImage x = Sample.withSelections(eightByEight(), new int[] {0, 8, 1}, new int[] {0, 8, 1});
            c.due("x " + r[0] + ", step " + r[1], x.putSlab(0, r[0], r[1]), 64);
            int value = r[0];
            for (int n = 0; n < 64; n++) {
                c.due("cell " + n, x.get(0, n / 8, n % 8), value);
                value += r[1];
            }
        }
        c.refused("a BYTE between wraps", () -> Sample.withSelections(Sample.data(), new int[] {0, 3, 1}, ONE),
                x -> x.putSlab(0, 0, MIN), SlabImage.RANGE);
    }

    private static void slabGrows(Check c) {
        int[][] rows = {{0, 1, 1}, {1, 1, 1}, {2, 1, 1}, {0, 3, 1}, {1, 2, 8}, {3, 4, 2}, {9, 1, 8}};
        int[] records = {2, 2, 3, 3, 10, 10, 10};
        for (int k = 0; k < rows.length; k++) {
            SlabImage x = Sample.withSelections(Sample.data(), rows[k], ONE);
            c.due("cells", x.putSlab(1, 5, 1), rows[k][1]);
            c.due("records from " + rows[k][0], x.records(), records[k]);
            c.due("their bytes", x.size(), 292 + 12 * records[k]);
        }
        SlabImage x = Sample.withSelections(Sample.data(), new int[] {0, 3, 1}, ONE);
        c.due("a slab of A", x.putSlab(0, 5, 1), 3);
        c.due("does not grow", x.records(), 2);
        SlabImage y = Sample.withSelections(Sample.data(), new int[] {5, 3, 1}, new int[] {5, 3, 1});
        c.due("a slab of C", y.putSlab(2, 5, 1), 1);
        c.due("does not grow", y.records(), 2);
    }

    private static void slabFills(Check c) {
        SlabImage x = Sample.withSelections(Sample.data(), new int[] {3, 2, 2}, new int[] {0, 2, 2});
        c.due("four cells", x.putSlab(1, 5, 1), 4);
        int[] want = {5, 6, 7, 8};
        int n = 0;
        for (int i = 2; i < 6; i++) {
            for (int j = 0; j < 3; j++) {
                boolean in = i % 2 == 1 && j != 1;
                c.due("B " + i + ", " + j, x.get(1, i, j), in ? want[n++] : -32767);
            }
            c.due("D " + i, x.get(3, i, 0), 0);
        }
        c.due("old cells stay", x.get(1, 1, 1), 303);
    }

    private static void slabNoVariable(Check c) {
        for (int v : new int[] {MIN, -2, -1, 4, 5, MAX}) {
            c.refused("variable " + v, Sample::data, x -> x.putSlab(v, 0, 0), SlabImage.NOTHING);
            c.refused("of none", CellEdgesTest::noVariables, x -> x.putSlab(v, 0, 0), SlabImage.NOTHING);
        }
    }

    private static void slabOutside(Check c) {
        int[][] rows = {{3, 1, 1}, {1, 3, 1}, {2, 2, 1}, {0, 2, 3}, {0, 2, 8}, {2, 8, 1}, {MAX, 1, 1}, {MAX, 2, 1},
            {MAX, 8, 8}, {MAX - 6, 8, 1}};
        for (int[] row : rows) {
            c.refused("A from row " + row[0], () -> Sample.withSelections(Sample.data(), row, ONE),
                    x -> x.putSlab(0, 1, 0), SlabImage.OUTSIDE);
        }
        int[][] columns = {{2, 1, 1}, {1, 2, 1}, {0, 2, 2}, {0, 3, 1}, {MAX, 1, 1}, {MAX, 3, 1}, {MAX, 8, 8}};
        for (int[] column : columns) {
            c.refused("A from column " + column[0], () -> Sample.withSelections(Sample.data(), TWO, column),
                    x -> x.putSlab(0, 1, 0), SlabImage.OUTSIDE);
        }
        for (int[] column : new int[][] {{3, 1, 1}, {0, 2, 3}, {2, 2, 1}, {MAX, 2, 1}}) {
            c.refused("B from column " + column[0], () -> Sample.withSelections(Sample.data(), TWO, column),
                    x -> x.putSlab(1, 1, 0), SlabImage.OUTSIDE);
            c.refused("in records to come", () -> Sample.withSelections(Sample.data(), new int[] {1, 3, 1}, column),
                    x -> x.putSlab(1, 1, 0), SlabImage.OUTSIDE);
        }
        SlabImage x = Sample.withSelections(Sample.data(), new int[] {0, 2, 2}, TWO);
        c.due("to the last cell of A", x.putSlab(0, 1, 0), 4);
    }

    private static void slabAnyRecord(Check c) {
        for (int start : new int[] {0, 1, 2, 8, 9, 40}) {
            SlabImage x = Sample.withSelections(Sample.data(), new int[] {start, 2, 1}, ONE);
            c.due("from record " + start, x.putSlab(1, 123, 1), 2);
            c.due("its last cell", x.get(1, start + 1, 0), 124);
        }
        int[][] rows = {{41, 2, 1}, {MAX, 1, 1}, {MAX, 2, 1}, {MAX, 8, 8}, {MAX - 7, 8, 1}};
        for (int[] row : rows) {
            c.refused("from record " + row[0], () -> Sample.withSelections(Sample.data(), row, ONE),
                    x -> x.putSlab(1, 1, 0), SlabImage.TOOBIG);
        }
    }

    private static void slabRange(Check c) {
        int[] rows = {0, 3, 1};
        int[][] wrong = {{128, -1}, {-129, 1}, {123, 1}, {-124, -1}, {100, 7}, {0, 1 << 31}, {0, 1 << 30}, {127, 1}};
        for (int[] w : wrong) {
            c.refused("A from " + w[0] + " by " + w[1], () -> Sample.withSelections(Sample.data(), rows, TWO),
                    x -> x.putSlab(0, w[0], w[1]), SlabImage.RANGE);
        }
        c.refused("the second of three alone", () -> Sample.withSelections(Sample.data(), rows, ONE),
                x -> x.putSlab(0, 0, MIN), SlabImage.RANGE);
        int[][] growing = {{256, 0}, {-1, 1}, {253, 1}, {3, -1}};
        for (int[] w : growing) {
            c.refused("D from " + w[0], () -> Sample.withSelections(Sample.data(), new int[] {0, 5, 1}, ONE),
                    x -> x.putSlab(3, w[0], w[1]), SlabImage.RANGE);
        }
        SlabImage x = Sample.withSelections(Sample.data(), rows, TWO);
        c.due("the highest that fit", x.putSlab(0, 122, 1), 6);
        c.due("the last of them", x.get(0, 2, 1), 127);
        c.due("the lowest that fit", x.putSlab(0, -123, -1), 6);
        c.due("the last of them", x.get(0, 2, 1), -128);
        // One cell has the value x alone: the step does not matter.
        SlabImage y = Sample.withSelections(Sample.data(), ONE, ONE);
        c.due("one cell", y.putSlab(0, 127, MAX), 1);
        c.due("its value", y.get(0, 0, 0), 127);
    }

    private static void getSlabNoVariable(Check c) {
        for (int v : new int[] {MIN, -2, -1, 4, 5, MAX}) {
            c.refused("variable " + v, Sample::data, x -> x.getSlab(v, 0), SlabImage.NOVALUE);
            c.refused("of none", CellEdgesTest::noVariables, x -> x.getSlab(v, 0), SlabImage.NOVALUE);
        }
    }

    private static void noSlab(Check c, int v, int[] rows, int[] columns) {
        c.refused("variable " + v + " from " + rows[0] + ", " + columns[0],
                () -> Sample.withSelections(Sample.data(), rows, columns), x -> x.getSlab(v, 0), SlabImage.NOVALUE);
    }

    private static void getSlabNoCells(Check c) {
        noSlab(c, 0, new int[] {0, 4, 1}, ONE);
        noSlab(c, 0, new int[] {3, 1, 1}, ONE);
        noSlab(c, 0, new int[] {0, 2, 3}, ONE);
        noSlab(c, 0, new int[] {MAX, 2, 1}, ONE);
        noSlab(c, 0, ONE, new int[] {0, 3, 1});
        noSlab(c, 0, ONE, new int[] {2, 1, 1});
        noSlab(c, 0, ONE, new int[] {MAX, 8, 8});
        noSlab(c, 1, new int[] {0, 3, 1}, ONE);
        noSlab(c, 1, new int[] {2, 1, 1}, ONE);
        noSlab(c, 1, new int[] {0, 2, 2}, ONE);
        noSlab(c, 1, new int[] {MAX, 8, 1}, ONE);
        noSlab(c, 1, ONE, new int[] {1, 3, 1});
        noSlab(c, 3, new int[] {1, 2, 1}, ONE);
        SlabImage x = Sample.withSelections(Sample.data(), new int[] {0, 3, 1}, ONE);
        c.due("record 2 is missing", x.getSlab(3, 1), SlabImage.NOVALUE);
        x.put(1, 2, 0, 1);
        c.due("now it is there", x.getSlab(3, 1), 'D');
        c.due("and its own cell", x.getSlab(3, 2), 0);
    }

    private static void getSlabNoCell(Check c) {
        for (int n : new int[] {MIN, -1, 4, 5, 64, MAX}) {
            c.refused("A has no cell " + n, Sample::data, x -> x.getSlab(0, n), SlabImage.NOVALUE);
        }
        for (int n : new int[] {MIN, -1, 2, 3, MAX}) {
            c.refused("D has no cell " + n, Sample::data, x -> x.getSlab(3, n), SlabImage.NOVALUE);
        }
        for (int n : new int[] {MIN, -1, 1, 2, MAX}) {
            c.refused("C has no cell " + n, Sample::data, x -> x.getSlab(2, n), SlabImage.NOVALUE);
        }
        SlabImage x = Sample.data();
        c.due("the last of A", x.getSlab(0, 3), 13);
        c.due("the last of D", x.getSlab(3, 1), 'D');
        c.due("the last of C", x.getSlab(2, 0), 70000);
        SlabImage y = Sample.withSelections(eightByEight(), new int[] {0, 8, 1}, new int[] {0, 8, 1});
        y.putSlab(0, 0, 1);
        c.due("the last of 64", y.getSlab(0, 63), 63);
        c.due("none behind it", y.getSlab(0, 64), SlabImage.NOVALUE);
    }

    private static void records(Check c) {
        SlabImage x = new SlabImage();
        x.dimension('t', 0);
        x.variable('A', 1, 0, -1);
        c.due("none at first", x.records(), 0);
        x.seal();
        c.due("none in DATA", x.records(), 0);
        x.put(0, 0, 0, 1);
        c.due("one", x.records(), 1);
        x.put(0, 299, 0, 1);
        c.due("300", x.records(), 300);
        x.redefine();
        c.due("300 in DEFINING", x.records(), 300);
        c.due("taken over", c.opens("two records", Images.oneGrowing(2, 2, 0, 1, 6)).records(), 2);
        c.due("none taken over", c.opens("no records", Images.oneGrowing(0, 2, 0, 1, 0)).records(), 0);
    }
}
