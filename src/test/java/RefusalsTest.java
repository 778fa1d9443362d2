/** "Every call tests MODE first. A refused call changes nothing; of several refusals the one named first is answered." */
public final class RefusalsTest {
    private static final int MAX = Integer.MAX_VALUE;
    private static final int[] ONE = {0, 1, 1};
    private static final int[] TWO = {0, 2, 1};
    private static final int[] FAR = {100, 2, 1};

    public static void main(String[] args) {
        Check check = new Check();
        check.sentence("THE MODE is DEFINING at first", RefusalsTest::firstMode);
        check.sentence("2: DEFINING; dimension tests MODE first", RefusalsTest::modeOfDimension);
        check.sentence("3: DEFINING; variable tests MODE first", RefusalsTest::modeOfVariable);
        check.sentence("4: DEFINING; attribute tests MODE first", RefusalsTest::modeOfAttribute);
        check.sentence("5: DEFINING; drop tests MODE first", RefusalsTest::modeOfDrop);
        check.sentence("6: DEFINING; rename tests MODE first", RefusalsTest::modeOfRename);
        check.sentence("7: DEFINING; seal tests MODE", RefusalsTest::modeOfSeal);
        check.sentence("8: DATA; redefine tests MODE", RefusalsTest::modeOfRedefine);
        check.sentence("9: DATA; put tests MODE first", RefusalsTest::modeOfPut);
        check.sentence("10: DATA; NOVALUE when the mode is another one", RefusalsTest::modeOfGet);
        check.sentence("11: in any mode: select", RefusalsTest::anyModeForSelect);
        check.sentence("12: DATA; putSlab tests MODE first", RefusalsTest::modeOfPutSlab);
        check.sentence("13: DATA; NOVALUE when the mode is another one", RefusalsTest::modeOfGetSlab);
        check.sentence("14: in any mode: records", RefusalsTest::anyModeForRecords);
        check.sentence("15: DATA; size tests MODE", RefusalsTest::modeOfSize);
        check.sentence("16: DATA; begin tests MODE first", RefusalsTest::modeOfBegin);
        check.sentence("18: in any mode: add", RefusalsTest::anyModeForAdd);
        check.sentence("19: in any mode: erase", RefusalsTest::anyModeForErase);
        check.sentence("20: in any mode: open", RefusalsTest::anyModeForOpen);
        check.sentence("dimension: the refusal named first", RefusalsTest::orderOfDimension);
        check.sentence("variable: the refusal named first", RefusalsTest::orderOfVariable);
        check.sentence("attribute: the refusal named first", RefusalsTest::orderOfAttribute);
        check.sentence("rename: the refusal named first", RefusalsTest::orderOfRename);
        check.sentence("put: the refusal named first", RefusalsTest::orderOfPut);
        check.sentence("select: the refusal named first", RefusalsTest::orderOfSelect);
        check.sentence("putSlab: the refusal named first", RefusalsTest::orderOfPutSlab);
        check.end();
    }

    private static SlabImage crowdedData() {
        SlabImage x = Sample.crowded();
        x.seal();
        return x;
    }

    private static void firstMode(Check c) {
        c.due("redefine()", new SlabImage().redefine(), SlabImage.MODE);
        c.due("size()", new SlabImage().size(), SlabImage.MODE);
        c.due("dimension('a', 1)", new SlabImage().dimension('a', 1), 0);
        c.due("seal()", new SlabImage().seal(), 32);
    }

    private static void modeOfDimension(Check c) {
        c.refused("a right one", Sample::data, x -> x.dimension('z', 1), SlabImage.MODE);
        c.refused("no name", Sample::data, x -> x.dimension(0, 1), SlabImage.MODE);
        c.refused("no length", Sample::data, x -> x.dimension('z', 9), SlabImage.MODE);
        c.refused("a taken name", Sample::data, x -> x.dimension('a', 1), SlabImage.MODE);
        c.refused("a second growing one", Sample::data, x -> x.dimension('z', 0), SlabImage.MODE);
        c.refused("a fifth one", RefusalsTest::crowdedData, x -> x.dimension('z', 1), SlabImage.MODE);
    }

    private static void modeOfVariable(Check c) {
        c.refused("a right one", Sample::data, x -> x.variable('z', 1, 0, -1), SlabImage.MODE);
        c.refused("no name", Sample::data, x -> x.variable(0, 1, 0, -1), SlabImage.MODE);
        c.refused("no type", Sample::data, x -> x.variable('z', 0, 0, -1), SlabImage.MODE);
        c.refused("no dimension", Sample::data, x -> x.variable('z', 1, 9, -1), SlabImage.MODE);
        c.refused("a growing b", Sample::data, x -> x.variable('z', 1, 0, 1), SlabImage.MODE);
        c.refused("a taken name", Sample::data, x -> x.variable('A', 1, 0, -1), SlabImage.MODE);
        c.refused("a sixth one", RefusalsTest::crowdedData, x -> x.variable('z', 1, 0, -1), SlabImage.MODE);
    }

    private static void modeOfAttribute(Check c) {
        c.refused("a right one", Sample::data, x -> x.attribute(0, 'z', 1, 0, 0), SlabImage.MODE);
        c.refused("one that is there", Sample::data, x -> x.attribute(-1, 'p', 1, 0, 0), SlabImage.MODE);
        c.refused("no list", Sample::data, x -> x.attribute(9, 'z', 1, 0, 0), SlabImage.MODE);
        c.refused("no name", Sample::data, x -> x.attribute(0, 0, 1, 0, 0), SlabImage.MODE);
        c.refused("no type", Sample::data, x -> x.attribute(0, 'z', 0, 0, 0), SlabImage.MODE);
        c.refused("no value", Sample::data, x -> x.attribute(0, 'z', 1, 999, 0), SlabImage.MODE);
        c.refused("a fourth one", RefusalsTest::crowdedData, x -> x.attribute(-1, 'z', 1, 0, 0), SlabImage.MODE);
    }

    private static void modeOfDrop(Check c) {
        c.refused("a right drop", Sample::data, x -> x.drop(-1, 'p'), SlabImage.MODE);
        c.refused("a drop from no list", Sample::data, x -> x.drop(9, 'p'), SlabImage.MODE);
        c.refused("a drop of none", Sample::data, x -> x.drop(-1, 'z'), SlabImage.MODE);
    }

    private static void modeOfRename(Check c) {
        for (boolean variable : new boolean[] {false, true}) {
            c.refused("a right rename", Sample::data, x -> x.rename(variable, 0, 'z'), SlabImage.MODE);
            c.refused("a rename of none", Sample::data, x -> x.rename(variable, 9, 'z'), SlabImage.MODE);
            c.refused("a rename to no name", Sample::data, x -> x.rename(variable, 0, 0), SlabImage.MODE);
            c.refused("to a taken name", Sample::data, x -> x.rename(variable, 0, variable ? 'B' : 'b'), SlabImage.MODE);
        }
    }

    private static void modeOfSeal(Check c) {
        c.refused("seal() in DATA", Sample::data, SlabImage::seal, SlabImage.MODE);
        c.due("seal() in DEFINING", Sample.defining().seal(), 316);
    }

    private static void modeOfRedefine(Check c) {
        c.refused("redefine() in DEFINING", Sample::defining, SlabImage::redefine, SlabImage.MODE);
        c.refused("redefine() of a new object", SlabImage::new, SlabImage::redefine, SlabImage.MODE);
        c.due("redefine() in DATA", Sample.data().redefine(), 0);
    }

    private static void modeOfPut(Check c) {
        c.refused("a right put", Sample::defining, x -> x.put(2, 0, 0, 5), SlabImage.MODE);
        c.refused("one that would grow", Sample::defining, x -> x.put(1, 3, 0, 5), SlabImage.MODE);
        c.refused("no variable", Sample::defining, x -> x.put(9, 0, 0, 5), SlabImage.MODE);
        c.refused("no cell", Sample::defining, x -> x.put(0, 9, 0, 5), SlabImage.MODE);
        c.refused("no value", Sample::defining, x -> x.put(0, 0, 0, 999), SlabImage.MODE);
        c.refused("too far", Sample::defining, x -> x.put(1, 999, 0, 5), SlabImage.MODE);
    }

    private static void modeOfPutSlab(Check c) {
        c.refused("a right putSlab", Sample::defining, x -> x.putSlab(0, 5, 1), SlabImage.MODE);
        c.refused("a slab of no variable", Sample::defining, x -> x.putSlab(9, 5, 1), SlabImage.MODE);
        c.refused("a slab outside", () -> Sample.withSelections(Sample.defining(), FAR, ONE),
                x -> x.putSlab(0, 5, 1), SlabImage.MODE);
        c.refused("a slab of no values", Sample::defining, x -> x.putSlab(0, 999, 1), SlabImage.MODE);
        c.refused("a slab too far", () -> Sample.withSelections(Sample.defining(), FAR, ONE),
                x -> x.putSlab(1, 5, 1), SlabImage.MODE);
    }

    private static void modeOfGet(Check c) {
        c.refused("a cell of A", Sample::defining, x -> x.get(0, 0, 0), SlabImage.NOVALUE);
        c.refused("a cell of a record", Sample::defining, x -> x.get(1, 1, 1), SlabImage.NOVALUE);
        c.refused("the cell of C", Sample::defining, x -> x.get(2, 0, 0), SlabImage.NOVALUE);
    }

    private static void modeOfGetSlab(Check c) {
        for (int v = 0; v < 4; v++) {
            int number = v;
            c.refused("a cell of variable " + v, Sample::defining, x -> x.getSlab(number, 0), SlabImage.NOVALUE);
        }
    }

    private static void modeOfSize(Check c) {
        c.refused("of the sample", Sample::defining, SlabImage::size, SlabImage.MODE);
        c.refused("of a new object", SlabImage::new, SlabImage::size, SlabImage.MODE);
    }

    private static void modeOfBegin(Check c) {
        for (int v = -1; v < 5; v++) {
            int number = v;
            c.refused("begin(" + v + ")", Sample::defining, x -> x.begin(number), SlabImage.MODE);
        }
    }

    private static SlabImage inMode(boolean data) {
        return data ? Sample.data() : Sample.defining();
    }

    private static void anyModeForSelect(Check c) {
        for (boolean data : new boolean[] {false, true}) {
            SlabImage x = inMode(data);
            c.due("select(1, 1, 1, 1)", x.select(1, 1, 1, 1), 0);
            c.due("select(0, 2, 1, 1)", x.select(0, 2, 1, 1), 0);
            x.seal();
            c.due("one cell", x.putSlab(0, 99, 0), 1);
            c.due("the cell", x.get(0, 2, 1), 99);
        }
    }

    private static void anyModeForRecords(Check c) {
        c.due("in DEFINING", Sample.defining().records(), 2);
        c.due("in DATA", Sample.data().records(), 2);
    }

    private static void anyModeForAdd(Check c) {
        int[] row = Images.scalars("A");
        for (boolean data : new boolean[] {false, true}) {
            SlabImage x = inMode(data);
            x.erase();
            for (int k = 0; k < row.length; k++) {
                c.due("add", x.add((long) row[k] << 56, 1), true);
            }
            c.due("the mode is as before", x.size(), data ? 316 : SlabImage.MODE);
            c.due("open() of what was added", x.open(), row.length);
        }
    }

    private static void anyModeForErase(Check c) {
        for (boolean data : new boolean[] {false, true}) {
            SlabImage x = inMode(data);
            x.erase();
            c.due("the mode is as before", x.size(), data ? 316 : SlabImage.MODE);
            c.due("nothing is left of the draft", x.open(), SlabImage.MALFORMED);
        }
    }

    private static void anyModeForOpen(Check c) {
        c.due("in DEFINING", Sample.defining().open(), 52);
        c.due("in DATA", Sample.data().open(), 52);
    }

    private static void orderOfDimension(Check c) {
        c.refused("BAD length before TAKEN", Sample::defining, x -> x.dimension('a', 9), SlabImage.BAD);
        c.refused("BAD length before FULL", Sample::crowded, x -> x.dimension('z', -1), SlabImage.BAD);
        c.refused("BAD name before FULL", Sample::crowded, x -> x.dimension(127, 1), SlabImage.BAD);
        c.refused("BAD name before a second growing one", Sample::defining, x -> x.dimension(127, 0), SlabImage.BAD);
        c.refused("TAKEN before FULL", Sample::crowded, x -> x.dimension('a', 1), SlabImage.TAKEN);
        c.refused("TAKEN before a second growing one", Sample::defining, x -> x.dimension('a', 0), SlabImage.TAKEN);
        c.refused("TAKEN by the growing one itself", Sample::defining, x -> x.dimension('t', 0), SlabImage.TAKEN);
    }

    private static void orderOfVariable(Check c) {
        c.refused("BAD name before NOTHING", Sample::defining, x -> x.variable(32, 1, 9, -1), SlabImage.BAD);
        c.refused("BAD type before NOTHING", Sample::defining, x -> x.variable('z', 5, 0, 9), SlabImage.BAD);
        c.refused("BAD type before b without a", Sample::defining, x -> x.variable('z', 5, -1, 0), SlabImage.BAD);
        c.refused("BAD type before TAKEN", Sample::defining, x -> x.variable('A', 5, 0, -1), SlabImage.BAD);
        c.refused("BAD name before FULL", Sample::crowded, x -> x.variable(32, 1, 0, -1), SlabImage.BAD);
        c.refused("BAD type before FULL", Sample::crowded, x -> x.variable('z', 0, 0, -1), SlabImage.BAD);
        c.refused("no a before a growing b", Sample::defining, x -> x.variable('z', 1, 9, 1), SlabImage.NOTHING);
        c.refused("a -1 before a growing b", Sample::defining, x -> x.variable('z', 1, -1, 1), SlabImage.NOTHING);
        c.refused("no a before TAKEN", Sample::defining, x -> x.variable('A', 1, 9, -1), SlabImage.NOTHING);
        c.refused("no b before TAKEN", Sample::defining, x -> x.variable('A', 1, 0, 9), SlabImage.NOTHING);
        c.refused("b without a before TAKEN", Sample::defining, x -> x.variable('A', 1, -1, 0), SlabImage.NOTHING);
        c.refused("no a before FULL", Sample::crowded, x -> x.variable('z', 1, 9, -1), SlabImage.NOTHING);
        c.refused("b without a before FULL", Sample::crowded, x -> x.variable('z', 1, -1, 0), SlabImage.NOTHING);
        c.refused("a growing b before TAKEN", Sample::defining, x -> x.variable('A', 1, 0, 1), SlabImage.BAD);
        c.refused("a growing b before FULL", Sample::crowded, x -> x.variable('z', 1, 0, 1), SlabImage.BAD);
        c.refused("TAKEN before FULL", Sample::crowded, x -> x.variable('A', 1, 0, -1), SlabImage.TAKEN);
    }

    private static void orderOfAttribute(Check c) {
        c.refused("NOTHING before a BAD name", Sample::defining, x -> x.attribute(9, 0, 1, 0, 0), SlabImage.NOTHING);
        c.refused("NOTHING before a BAD type", Sample::defining, x -> x.attribute(9, 'z', 0, 0, 0), SlabImage.NOTHING);
        c.refused("NOTHING before RANGE", Sample::defining, x -> x.attribute(9, 'z', 1, 999, 0), SlabImage.NOTHING);
        c.refused("BAD name before RANGE of x", Sample::defining, x -> x.attribute(0, 127, 1, 999, 0), SlabImage.BAD);
        c.refused("BAD name before RANGE of y", Sample::defining, x -> x.attribute(0, 127, 1, 0, 999), SlabImage.BAD);
        c.refused("BAD type, whatever x is", Sample::defining, x -> x.attribute(0, 'z', 5, MAX, 0), SlabImage.BAD);
        c.refused("BAD type, whatever y is", Sample::defining, x -> x.attribute(0, 'z', 0, 0, 999), SlabImage.BAD);
        c.refused("BAD name before FULL", Sample::crowded, x -> x.attribute(-1, 127, 1, 0, 0), SlabImage.BAD);
        c.refused("BAD type before FULL", Sample::crowded, x -> x.attribute(1, 'z', 5, 0, 0), SlabImage.BAD);
        c.refused("RANGE of x before FULL", Sample::crowded, x -> x.attribute(-1, 'z', 1, 128, 0), SlabImage.RANGE);
        c.refused("RANGE of y before FULL", Sample::crowded, x -> x.attribute(1, 'z', 1, 0, 128), SlabImage.RANGE);
    }

    private static void orderOfRename(Check c) {
        for (boolean variable : new boolean[] {false, true}) {
            int taken = variable ? 'A' : 'a';
            c.refused("NOTHING before BAD", Sample::defining, x -> x.rename(variable, 9, 32), SlabImage.NOTHING);
            c.refused("NOTHING before BAD", Sample::defining, x -> x.rename(variable, -1, 32), SlabImage.NOTHING);
            c.refused("NOTHING before TAKEN", Sample::defining, x -> x.rename(variable, 9, taken), SlabImage.NOTHING);
        }
    }

    private static void orderOfPut(Check c) {
        c.refused("NOTHING before OUTSIDE", Sample::data, x -> x.put(9, -1, -1, 0), SlabImage.NOTHING);
        c.refused("NOTHING before RANGE", Sample::data, x -> x.put(-1, 0, 0, MAX), SlabImage.NOTHING);
        c.refused("NOTHING before TOOBIG", Sample::data, x -> x.put(9, MAX, 0, 0), SlabImage.NOTHING);
        c.refused("i OUTSIDE before RANGE", Sample::data, x -> x.put(0, 3, 0, 999), SlabImage.OUTSIDE);
        c.refused("j OUTSIDE before RANGE", Sample::data, x -> x.put(0, 0, 2, 999), SlabImage.OUTSIDE);
        c.refused("i OUTSIDE before RANGE, record", Sample::data, x -> x.put(1, -1, 0, 99999), SlabImage.OUTSIDE);
        c.refused("j OUTSIDE before RANGE, record", Sample::data, x -> x.put(1, 0, 3, 99999), SlabImage.OUTSIDE);
        c.refused("j OUTSIDE before TOOBIG", Sample::data, x -> x.put(1, 999, 3, 0), SlabImage.OUTSIDE);
        c.refused("j OUTSIDE before TOOBIG", Sample::data, x -> x.put(3, MAX, 1, 0), SlabImage.OUTSIDE);
        c.refused("RANGE before TOOBIG", Sample::data, x -> x.put(1, 999, 0, 32768), SlabImage.RANGE);
        c.refused("RANGE before TOOBIG", Sample::data, x -> x.put(3, MAX, 0, -1), SlabImage.RANGE);
        c.refused("RANGE before it grows", Sample::data, x -> x.put(3, 3, 0, -1), SlabImage.RANGE);
    }

    private static void orderOfSelect(Check c) {
        for (int axis : new int[] {-1, 2}) {
            c.refused("NOTHING before a BAD start", Sample::data, x -> x.select(axis, -1, 1, 1), SlabImage.NOTHING);
            c.refused("NOTHING before a BAD count", Sample::data, x -> x.select(axis, 0, 9, 1), SlabImage.NOTHING);
            c.refused("NOTHING before a BAD stride", Sample::data, x -> x.select(axis, 0, 1, 0), SlabImage.NOTHING);
        }
    }

    private static void slab(Check c, String what, int[] rows, int[] columns, int[] call, int want) {
        c.refused(what, () -> Sample.withSelections(Sample.data(), rows, columns),
                x -> x.putSlab(call[0], call[1], call[2]), want);
    }

    private static void orderOfPutSlab(Check c) {
        slab(c, "NOTHING before OUTSIDE", FAR, FAR, new int[] {9, 0, 0}, SlabImage.NOTHING);
        slab(c, "NOTHING before RANGE", ONE, ONE, new int[] {-1, MAX, 0}, SlabImage.NOTHING);
        slab(c, "NOTHING before TOOBIG", FAR, ONE, new int[] {4, 0, 0}, SlabImage.NOTHING);
        slab(c, "i OUTSIDE before RANGE", FAR, ONE, new int[] {0, 999, 0}, SlabImage.OUTSIDE);
        slab(c, "j OUTSIDE before RANGE", TWO, FAR, new int[] {0, 999, 0}, SlabImage.OUTSIDE);
        slab(c, "j OUTSIDE before RANGE, record", TWO, FAR, new int[] {1, 99999, 0}, SlabImage.OUTSIDE);
        slab(c, "j OUTSIDE before TOOBIG", FAR, FAR, new int[] {1, 0, 0}, SlabImage.OUTSIDE);
        slab(c, "RANGE of the first before TOOBIG", FAR, TWO, new int[] {1, 32768, -1}, SlabImage.RANGE);
        slab(c, "RANGE of the last before TOOBIG", FAR, TWO, new int[] {1, 32765, 1}, SlabImage.RANGE);
        slab(c, "RANGE before it grows", new int[] {2, 2, 1}, TWO, new int[] {1, 32765, 1}, SlabImage.RANGE);
        slab(c, "RANGE before TOOBIG, one axis", FAR, FAR, new int[] {3, 255, 1}, SlabImage.RANGE);
    }
}
