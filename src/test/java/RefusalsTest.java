/** "Every call tests MODE first. A refused call changes nothing; of several refusals the one named first is answered." */
public final class RefusalsTest {
    private static final int MAX = Integer.MAX_VALUE;
    private static final int[] ONE = {0, 1, 1};
    private static final int[] TWO = {0, 2, 1};
    private static final int[] FAR = {100, 2, 1};

    public static void main(String[] args) {
        Check check = new Check();
        check.sentence("THE MODE is DEFINING at first", RefusalsTest::firstMode);
        check.sentence("dimension tests MODE first", RefusalsTest::modeOfDimension);
        check.sentence("variable tests MODE first", RefusalsTest::modeOfVariable);
        check.sentence("attribute tests MODE first", RefusalsTest::modeOfAttribute);
        check.sentence("drop and rename test MODE first", RefusalsTest::modeOfDropAndRename);
        check.sentence("seal and redefine test MODE", RefusalsTest::modeOfSealAndRedefine);
        check.sentence("put and putSlab test MODE first", RefusalsTest::modeOfPuts);
        check.sentence("get, getSlab, size, begin and eight test MODE first", RefusalsTest::modeOfLooking);
        check.sentence("select, records, add, erase and open: in any mode", RefusalsTest::anyMode);
        check.sentence("dimension: the refusal named first", RefusalsTest::orderOfDimension);
        check.sentence("variable: the refusal named first", RefusalsTest::orderOfVariable);
        check.sentence("attribute: the refusal named first", RefusalsTest::orderOfAttribute);
        check.sentence("rename: the refusal named first", RefusalsTest::orderOfRename);
        check.sentence("put: the refusal named first", RefusalsTest::orderOfPut);
        check.sentence("select: the refusal named first", RefusalsTest::orderOfSelect);
        check.sentence("putSlab: the refusal named first", RefusalsTest::orderOfPutSlab);
        check.end();
    }

    private static SlabImage crowdedData() {
        SlabImage x = Sample.crowded();
        x.seal();
        return x;
    }

    private static void firstMode(Check c) {
        c.due("redefine()", new SlabImage().redefine(), SlabImage.MODE);
        c.due("size()", new SlabImage().size(), SlabImage.MODE);
        c.due("dimension('a', 1)", new SlabImage().dimension('a', 1), 0);
        c.due("seal()", new SlabImage().seal(), 32);
    }

    private static void modeOfDimension(Check c) {
        c.refused("a right one", Sample::data, x -> x.dimension('z', 1), SlabImage.MODE);
        c.refused("no name", Sample::data, x -> x.dimension(0, 1), SlabImage.MODE);
        c.refused("no length", Sample::data, x -> x.dimension('z', 9), SlabImage.MODE);
        c.refused("a taken name", Sample::data, x -> x.dimension('a', 1), SlabImage.MODE);
        c.refused("a second growing one", Sample::data, x -> x.dimension('z', 0), SlabImage.MODE);
        c.refused("a fifth one", RefusalsTest::crowdedData, x -> x.dimension('z', 1), SlabImage.MODE);
    }

    private static void modeOfVariable(Check c) {
        c.refused("a right one", Sample::data, x -> x.variable('z', 1, 0, -1), SlabImage.MODE);
        c.refused("no name", Sample::data, x -> x.variable(0, 1, 0, -1), SlabImage.MODE);
        c.refused("no type", Sample::data, x -> x.variable('z', 0, 0, -1), SlabImage.MODE);
        c.refused("no dimension", Sample::data, x -> x.variable('z', 1, 9, -1), SlabImage.MODE);
        c.refused("a growing b", Sample::data, x -> x.variable('z', 1, 0, 1), SlabImage.MODE);
        c.refused("a taken name", Sample::data, x -> x.variable('A', 1, 0, -1), SlabImage.MODE);
        c.refused("a sixth one", RefusalsTest::crowdedData, x -> x.variable('z', 1, 0, -1), SlabImage.MODE);
    }

    private static void modeOfAttribute(Check c) {
        c.refused("a right one", Sample::data, x -> x.attribute(0, 'z', 1, 0, 0), SlabImage.MODE);
        c.refused("one that is there", Sample::data, x -> x.attribute(-1, 'p', 1, 0, 0), SlabImage.MODE);
        c.refused("no list", Sample::data, x -> x.attribute(9, 'z', 1, 0, 0), SlabImage.MODE);
        c.refused("no name", Sample::data, x -> x.attribute(0, 0, 1, 0, 0), SlabImage.MODE);
        c.refused("no type", Sample::data, x -> x.attribute(0, 'z', 0, 0, 0), SlabImage.MODE);
        c.refused("no value", Sample::data, x -> x.attribute(0, 'z', 1, 999, 0), SlabImage.MODE);
        c.refused("a fourth one", RefusalsTest::crowdedData, x -> x.attribute(-1, 'z', 1, 0, 0), SlabImage.MODE);
    }

    private static void modeOfDropAndRename(Check c) {
        c.refused("a right drop", Sample::data, x -> x.drop(-1, 'p'), SlabImage.MODE);
        c.refused("a drop from no list", Sample::data, x -> x.drop(9, 'p'), SlabImage.MODE);
        c.refused("a drop of none", Sample::data, x -> x.drop(-1, 'z'), SlabImage.MODE);
        for (boolean variable : new boolean[] {false, true}) {
            c.refused("a right rename", Sample::data, x -> x.rename(variable, 0, 'z'), SlabImage.MODE);
            c.refused("a rename of none", Sample::data, x -> x.rename(variable, 9, 'z'), SlabImage.MODE);
            c.refused("a rename to no name", Sample::data, x -> x.rename(variable, 0, 0), SlabImage.MODE);
            c.refused("to a taken name", Sample::data, x -> x.rename(variable, 0, variable ? 'B' : 'b'), SlabImage.MODE);
        }
    }

    private static void modeOfSealAndRedefine(Check c) {
        c.refused("seal() in DATA", Sample::data, SlabImage::seal, SlabImage.MODE);
        c.refused("redefine() in DEFINING", Sample::defining, SlabImage::redefine, SlabImage.MODE);
        c.refused("redefine() of a new object", SlabImage::new, SlabImage::redefine, SlabImage.MODE);
    }

    private static void modeOfPuts(Check c) {
        c.refused("a right put", Sample::defining, x -> x.put(2, 0, 0, 5), SlabImage.MODE);
        c.refused("one that would grow", Sample::defining, x -> x.put(1, 3, 0, 5), SlabImage.MODE);
        c.refused("no variable", Sample::defining, x -> x.put(9, 0, 0, 5), SlabImage.MODE);
        c.refused("no cell", Sample::defining, x -> x.put(0, 9, 0, 5), SlabImage.MODE);
        c.refused("no value", Sample::defining, x -> x.put(0, 0, 0, 999), SlabImage.MODE);
        c.refused("too far", Sample::defining, x -> x.put(1, 999, 0, 5), SlabImage.MODE);
        c.refused("a right putSlab", Sample::defining, x -> x.putSlab(0, 5, 1), SlabImage.MODE);
        c.refused("a slab of no variable", Sample::defining, x -> x.putSlab(9, 5, 1), SlabImage.MODE);
        c.refused("a slab outside", () -> Sample.withSelections(Sample.defining(), FAR, ONE),
                x -> x.putSlab(0, 5, 1), SlabImage.MODE);
        c.refused("a slab of no values", Sample::defining, x -> x.putSlab(0, 999, 1), SlabImage.MODE);
        c.refused("a slab too far", () -> Sample.withSelections(Sample.defining(), FAR, ONE),
                x -> x.putSlab(1, 5, 1), SlabImage.MODE);
    }

    private static void modeOfLooking(Check c) {
        c.refused("get", Sample::defining, x -> x.get(0, 0, 0), SlabImage.NOVALUE);
        c.refused("getSlab", Sample::defining, x -> x.getSlab(0, 0), SlabImage.NOVALUE);
        c.refused("size", Sample::defining, SlabImage::size, SlabImage.MODE);
        c.refused("begin", Sample::defining, x -> x.begin(0), SlabImage.MODE);
        c.refused("begin of no variable", Sample::defining, x -> x.begin(9), SlabImage.MODE);
        c.refused("begin of variable -1", Sample::defining, x -> x.begin(-1), SlabImage.MODE);
        c.refused("eight", Sample::defining, x -> x.eight(0), 0);
    }

    private static void anyMode(Check c) {
        for (boolean data : new boolean[] {false, true}) {
            SlabImage x = data ? Sample.data() : Sample.defining();
            c.due("records()", x.records(), 2);
            c.due("select(1, 1, 1, 1)", x.select(1, 1, 1, 1), 0);
            c.due("select(0, 2, 1, 1)", x.select(0, 2, 1, 1), 0);
            c.due("the draft of the sample", x.open(), 52);
            x.redefine();
            x.erase();
            c.due("nothing is left of it", x.open(), SlabImage.MALFORMED);
            int[] row = Images.oneVariable(0, new int[] {3, 2}, new int[] {0, 1}, 1, 8, 1, 2, 3, 4, 5, 6, 0, 0);
            for (int k = 0; k < row.length; k++) {
                c.due("add", x.add((long) row[k] << 56, 1), true);
            }
            c.due("open()", x.open(), row.length);
            c.due("the selections", x.getSlab(0, 0), 6);
            c.due("open() in DATA", x.open(), row.length);
        }
    }

    private static void orderOfDimension(Check c) {
        c.refused("BAD length before TAKEN", Sample::defining, x -> x.dimension('a', 9), SlabImage.BAD);
        c.refused("BAD length before FULL", Sample::crowded, x -> x.dimension('z', -1), SlabImage.BAD);
        c.refused("BAD name before FULL", Sample::crowded, x -> x.dimension(127, 1), SlabImage.BAD);
        c.refused("BAD name before a second growing one", Sample::defining, x -> x.dimension(127, 0), SlabImage.BAD);
        c.refused("TAKEN before FULL", Sample::crowded, x -> x.dimension('a', 1), SlabImage.TAKEN);
        c.refused("TAKEN before a second growing one", Sample::defining, x -> x.dimension('a', 0), SlabImage.TAKEN);
        c.refused("TAKEN by the growing one itself", Sample::defining, x -> x.dimension('t', 0), SlabImage.TAKEN);
    }

    private static void orderOfVariable(Check c) {
        c.refused("BAD name before NOTHING", Sample::defining, x -> x.variable(32, 1, 9, -1), SlabImage.BAD);
        c.refused("BAD type before NOTHING", Sample::defining, x -> x.variable('z', 5, 0, 9), SlabImage.BAD);
        c.refused("BAD type before b without a", Sample::defining, x -> x.variable('z', 5, -1, 0), SlabImage.BAD);
        c.refused("BAD type before TAKEN", Sample::defining, x -> x.variable('A', 5, 0, -1), SlabImage.BAD);
        c.refused("BAD name before FULL", Sample::crowded, x -> x.variable(32, 1, 0, -1), SlabImage.BAD);
        c.refused("BAD type before FULL", Sample::crowded, x -> x.variable('z', 0, 0, -1), SlabImage.BAD);
        c.refused("no a before a growing b", Sample::defining, x -> x.variable('z', 1, 9, 1), SlabImage.NOTHING);
        c.refused("a -1 before a growing b", Sample::defining, x -> x.variable('z', 1, -1, 1), SlabImage.NOTHING);
        c.refused("no a before TAKEN", Sample::defining, x -> x.variable('A', 1, 9, -1), SlabImage.NOTHING);
        c.refused("no b before TAKEN", Sample::defining, x -> x.variable('A', 1, 0, 9), SlabImage.NOTHING);
        c.refused("b without a before TAKEN", Sample::defining, x -> x.variable('A', 1, -1, 0), SlabImage.NOTHING);
        c.refused("no a before FULL", Sample::crowded, x -> x.variable('z', 1, 9, -1), SlabImage.NOTHING);
        c.refused("b without a before FULL", Sample::crowded, x -> x.variable('z', 1, -1, 0), SlabImage.NOTHING);
        c.refused("a growing b before TAKEN", Sample::defining, x -> x.variable('A', 1, 0, 1), SlabImage.BAD);
        c.refused("a growing b before FULL", Sample::crowded, x -> x.variable('z', 1, 0, 1), SlabImage.BAD);
        c.refused("TAKEN before FULL", Sample::crowded, x -> x.variable('A', 1, 0, -1), SlabImage.TAKEN);
    }

    private static void orderOfAttribute(Check c) {
        c.refused("NOTHING before a BAD name", Sample::defining, x -> x.attribute(9, 0, 1, 0, 0), SlabImage.NOTHING);
        c.refused("NOTHING before a BAD type", Sample::defining, x -> x.attribute(9, 'z', 0, 0, 0), SlabImage.NOTHING);
        c.refused("NOTHING before RANGE", Sample::defining, x -> x.attribute(9, 'z', 1, 999, 0), SlabImage.NOTHING);
        c.refused("BAD name before RANGE of x", Sample::defining, x -> x.attribute(0, 127, 1, 999, 0), SlabImage.BAD);
        c.refused("BAD name before RANGE of y", Sample::defining, x -> x.attribute(0, 127, 1, 0, 999), SlabImage.BAD);
        c.refused("BAD type, whatever x is", Sample::defining, x -> x.attribute(0, 'z', 5, MAX, 0), SlabImage.BAD);
        c.refused("BAD type, whatever y is", Sample::defining, x -> x.attribute(0, 'z', 0, 0, 999), SlabImage.BAD);
        c.refused("BAD name before FULL", Sample::crowded, x -> x.attribute(-1, 127, 1, 0, 0), SlabImage.BAD);
        c.refused("BAD type before FULL", Sample::crowded, x -> x.attribute(1, 'z', 5, 0, 0), SlabImage.BAD);
        c.refused("RANGE of x before FULL", Sample::crowded, x -> x.attribute(-1, 'z', 1, 128, 0), SlabImage.RANGE);
        c.refused("RANGE of y before FULL", Sample::crowded, x -> x.attribute(1, 'z', 1, 0, 128), SlabImage.RANGE);
    }

    private static void orderOfRename(Check c) {
        for (boolean variable : new boolean[] {false, true}) {
            int taken = variable ? 'A' : 'a';
            c.refused("NOTHING before BAD", Sample::defining, x -> x.rename(variable, 9, 32), SlabImage.NOTHING);
            c.refused("NOTHING before BAD", Sample::defining, x -> x.rename(variable, -1, 32), SlabImage.NOTHING);
            c.refused("NOTHING before TAKEN", Sample::defining, x -> x.rename(variable, 9, taken), SlabImage.NOTHING);
        }
    }

    private static void orderOfPut(Check c) {
        c.refused("NOTHING before OUTSIDE", Sample::data, x -> x.put(9, -1, -1, 0), SlabImage.NOTHING);
        c.refused("NOTHING before RANGE", Sample::data, x -> x.put(-1, 0, 0, MAX), SlabImage.NOTHING);
        c.refused("NOTHING before TOOBIG", Sample::data, x -> x.put(9, MAX, 0, 0), SlabImage.NOTHING);
        c.refused("i OUTSIDE before RANGE", Sample::data, x -> x.put(0, 3, 0, 999), SlabImage.OUTSIDE);
        c.refused("j OUTSIDE before RANGE", Sample::data, x -> x.put(0, 0, 2, 999), SlabImage.OUTSIDE);
        c.refused("i OUTSIDE before RANGE, record", Sample::data, x -> x.put(1, -1, 0, 99999), SlabImage.OUTSIDE);
        c.refused("j OUTSIDE before RANGE, record", Sample::data, x -> x.put(1, 0, 3, 99999), SlabImage.OUTSIDE);
        c.refused("j OUTSIDE before TOOBIG", Sample::data, x -> x.put(1, 999, 3, 0), SlabImage.OUTSIDE);
        c.refused("j OUTSIDE before TOOBIG", Sample::data, x -> x.put(3, MAX, 1, 0), SlabImage.OUTSIDE);
        c.refused("RANGE before TOOBIG", Sample::data, x -> x.put(1, 999, 0, 32768), SlabImage.RANGE);
        c.refused("RANGE before TOOBIG", Sample::data, x -> x.put(3, MAX, 0, -1), SlabImage.RANGE);
        c.refused("RANGE before it grows", Sample::data, x -> x.put(3, 3, 0, -1), SlabImage.RANGE);
    }

    private static void orderOfSelect(Check c) {
        for (int axis : new int[] {-1, 2}) {
            c.refused("NOTHING before a BAD start", Sample::data, x -> x.select(axis, -1, 1, 1), SlabImage.NOTHING);
            c.refused("NOTHING before a BAD count", Sample::data, x -> x.select(axis, 0, 9, 1), SlabImage.NOTHING);
            c.refused("NOTHING before a BAD stride", Sample::data, x -> x.select(axis, 0, 1, 0), SlabImage.NOTHING);
        }
    }

    private static void slab(Check c, String what, int[] rows, int[] columns, int[] call, int want) {
        c.refused(what, () -> Sample.withSelections(Sample.data(), rows, columns),
                x -> x.putSlab(call[0], call[1], call[2]), want);
    }

    private static void orderOfPutSlab(Check c) {
        slab(c, "NOTHING before OUTSIDE", FAR, FAR, new int[] {9, 0, 0}, SlabImage.NOTHING);
        slab(c, "NOTHING before RANGE", ONE, ONE, new int[] {-1, MAX, 0}, SlabImage.NOTHING);
        slab(c, "NOTHING before TOOBIG", FAR, ONE, new int[] {4, 0, 0}, SlabImage.NOTHING);
        slab(c, "i OUTSIDE before RANGE", FAR, ONE, new int[] {0, 999, 0}, SlabImage.OUTSIDE);
        slab(c, "j OUTSIDE before RANGE", TWO, FAR, new int[] {0, 999, 0}, SlabImage.OUTSIDE);
        slab(c, "j OUTSIDE before RANGE, record", TWO, FAR, new int[] {1, 99999, 0}, SlabImage.OUTSIDE);
        slab(c, "j OUTSIDE before TOOBIG", FAR, FAR, new int[] {1, 0, 0}, SlabImage.OUTSIDE);
        slab(c, "RANGE of the first before TOOBIG", FAR, TWO, new int[] {1, 32768, -1}, SlabImage.RANGE);
        slab(c, "RANGE of the last before TOOBIG", FAR, TWO, new int[] {1, 32765, 1}, SlabImage.RANGE);
        slab(c, "RANGE before it grows", new int[] {2, 2, 1}, TWO, new int[] {1, 32765, 1}, SlabImage.RANGE);
        slab(c, "RANGE before TOOBIG, one axis", FAR, FAR, new int[] {3, 255, 1}, SlabImage.RANGE);
    }
}
