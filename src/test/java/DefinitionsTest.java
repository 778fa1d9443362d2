/** Promises 1 to 8 in ordinary runs: what is defined, and when. Their edges stand in DefinitionEdgesTest. */
public final class DefinitionsTest {
    private static final int MAX = Integer.MAX_VALUE;

    public static void main(String[] args) {
        Check check = new Check();
        check.promise(1, DefinitionsTest::newObject);
        check.promise(2, DefinitionsTest::dimension);
        check.promise(3, DefinitionsTest::variable);
        check.promise(4, DefinitionsTest::attribute);
        check.promise(5, DefinitionsTest::drop);
        check.promise(6, DefinitionsTest::rename);
        check.promise(7, DefinitionsTest::seal);
        check.promise(7, DefinitionsTest::sealTooBig);
        check.promise(8, DefinitionsTest::redefine);
        check.end();
    }

    private static void newObject(Check c) {
        SlabImage x = new SlabImage();
        c.due("records()", x.records(), 0);
        c.due("size() defining", x.size(), SlabImage.MODE);
        c.due("eight(0) defining", x.eight(0), 0);
        c.due("open() of no bytes", x.open(), SlabImage.MALFORMED);
        c.due("rename of no dimension", x.rename(false, 0, 'a'), SlabImage.NOTHING);
        c.due("rename of no variable", x.rename(true, 0, 'a'), SlabImage.NOTHING);
        c.due("drop of no attribute", x.drop(-1, 'a'), SlabImage.NOTHING);
        c.due("seal()", x.seal(), 32);
        c.dueImage("an empty store", x, new Bytes().start(0).words(0, 0, 0, 0, 0, 0).all());

        SlabImage y = new SlabImage();
        y.dimension('a', 8);
        y.variable('A', 1, 0, 0);
        y.seal();
        c.due("putSlab of the first selections", y.putSlab(0, 5, 1), 1);
        c.due("get(0, 0, 0)", y.get(0, 0, 0), 5);
        c.due("get(0, 0, 1)", y.get(0, 0, 1), -127);
        c.due("get(0, 1, 0)", y.get(0, 1, 0), -127);
    }

    private static void dimension(Check c) {
        SlabImage x = new SlabImage();
        c.due("name 32", x.dimension(32, 1), SlabImage.BAD);
        c.due("name 127", x.dimension(127, 1), SlabImage.BAD);
        c.due("name -1", x.dimension(-1, 1), SlabImage.BAD);
        c.due("name 65 + 256", x.dimension(65 + 256, 1), SlabImage.BAD);
        c.due("length -1", x.dimension(65, -1), SlabImage.BAD);
        c.due("length 9", x.dimension(65, 9), SlabImage.BAD);
        c.due("lowest name", x.dimension(33, 8), 0);
        c.due("BAD before TAKEN", x.dimension(33, 9), SlabImage.BAD);
        c.due("taken", x.dimension(33, 0), SlabImage.TAKEN);
        c.due("highest name, growing", x.dimension(126, 0), 1);
        c.due("TAKEN before FULL", x.dimension(126, 0), SlabImage.TAKEN);
        c.due("a second growing one", x.dimension(50, 0), SlabImage.FULL);
        c.due("third", x.dimension(50, 1), 2);
        c.due("fourth", x.dimension(51, 1), 3);
        c.due("fifth", x.dimension(52, 1), SlabImage.FULL);
        c.due("fifth, taken", x.dimension(51, 1), SlabImage.TAKEN);
        c.due("fifth, bad", x.dimension(MAX, 1), SlabImage.BAD);
        c.due("seal()", x.seal(), 80);
        c.due("in DATA", x.dimension(32, 1), SlabImage.MODE);
        c.dueImage("four dimensions", x, new Bytes().start(0).words(10, 4)
                .name(33).words(8).name(126).words(0).name(50).words(1).name(51).words(1)
                .words(0, 0, 0, 0).all());
    }

    private static void variable(Check c) {
        SlabImage x = new SlabImage();
        x.dimension('t', 0);
        x.dimension('a', 2);
        x.dimension('b', 3);
        c.due("no axis", x.variable('A', 1, -1, -1), 0);
        c.due("one axis", x.variable('B', 2, 1, -1), 1);
        c.due("the same axis twice", x.variable('C', 3, 2, 2), 2);
        c.due("growing, one axis", x.variable('D', 4, 0, -1), 3);
        c.due("growing, two axes", x.variable('a', 1, 0, 1), 4);
        c.due("a sixth", x.variable('E', 1, -1, -1), SlabImage.FULL);
        c.due("a sixth, taken", x.variable('A', 1, -1, -1), SlabImage.TAKEN);
        x.seal();
        c.due("fill of BYTE", x.get(0, 0, 0), -127);
        c.due("fill of TEXT", x.get(1, 1, 0), 0);
        c.due("fill of SHORT", x.get(2, 2, 2), -32767);
        c.due("no cell", x.get(1, 2, 0), SlabImage.NOVALUE);
        c.due("no second axis", x.get(1, 0, 1), SlabImage.NOVALUE);
        c.due("no record", x.get(3, 0, 0), SlabImage.NOVALUE);
        c.due("put into record 1", x.put(4, 1, 1, 1), 0);
        c.due("fill of INT", x.get(3, 1, 0), -2147483647);
        c.due("fill beside the put", x.get(4, 1, 0), -127);
        c.due("fill before the put", x.get(4, 0, 1), -127);
        c.due("in DATA", x.variable('F', 1, -1, -1), SlabImage.MODE);
    }

    private static void attribute(Check c) {
        SlabImage x = new SlabImage();
        x.variable('A', 1, -1, -1);
        c.due("v is 1", x.attribute(1, 'a', 1, 0, 0), SlabImage.NOTHING);
        c.due("v is -2", x.attribute(-2, 'a', 1, 0, 0), SlabImage.NOTHING);
        c.due("NOTHING before BAD", x.attribute(1, 0, 1, 0, 0), SlabImage.NOTHING);
        c.due("name 32", x.attribute(-1, 32, 1, 0, 0), SlabImage.BAD);
        c.due("name 127", x.attribute(-1, 127, 1, 0, 0), SlabImage.BAD);
        c.due("type 0", x.attribute(-1, 'a', 0, 0, 0), SlabImage.BAD);
        c.due("type 5", x.attribute(-1, 'a', 5, 0, 0), SlabImage.BAD);
        c.due("BAD before RANGE", x.attribute(-1, 127, 1, 999, 0), SlabImage.BAD);
        c.due("first", x.attribute(-1, 'a', 1, -1, 2), 0);
        c.due("second", x.attribute(-1, 'b', 3, -2, 3), 0);
        c.due("third", x.attribute(-1, 'c', 4, 1, -1), 0);
        c.due("fourth", x.attribute(-1, 'd', 4, 1, -1), SlabImage.FULL);
        c.due("RANGE before FULL", x.attribute(-1, 'd', 1, 128, 0), SlabImage.RANGE);
        c.due("the middle one anew", x.attribute(-1, 'b', 2, 255, 0), 0);
        c.due("a refusal of one that is there", x.attribute(-1, 'a', 2, -1, 0), SlabImage.RANGE);
        c.due("the same name in another list", x.attribute(0, 'a', 2, 7, 8), 0);
        c.due("seal()", x.seal(), 8 + 8 + 8 + 20 + 20 + 24 + 8 + 32 + 20 + 4);
        c.due("in DATA", x.attribute(9, 'a', 2, 7, 8), SlabImage.MODE);
        c.dueImage("attributes", x, new Bytes().start(0).words(0, 0).words(12, 3)
                .name('a').words(1, 2).bytes(-1, 2, 0, 0)
                .name('b').words(2, 2).bytes(255, 0, 0, 0)
                .name('c').words(4, 2, 1, -1)
                .words(11, 1).name('A').words(0).words(12, 1).name('a').words(2, 2).bytes(7, 8, 0, 0)
                .words(1, 4, 148).bytes(-127, 0, 0, 0).all());
    }

    private static void drop(Check c) {
        SlabImage x = new SlabImage();
        x.variable('A', 1, -1, -1);
        x.attribute(-1, 'a', 3, 1, 2);
        x.attribute(-1, 'b', 4, 3, 4);
        x.attribute(-1, 'c', 1, 5, 6);
        x.attribute(0, 'z', 1, 5, 6);
        c.due("v is 1", x.drop(1, 'a'), SlabImage.NOTHING);
        c.due("v is -2", x.drop(-2, 'a'), SlabImage.NOTHING);
        c.due("none with that name", x.drop(-1, 'z'), SlabImage.NOTHING);
        c.due("no name", x.drop(-1, 0), SlabImage.NOTHING);
        c.due("the first", x.drop(-1, 'a'), 0);
        c.due("the first once more", x.drop(-1, 'a'), SlabImage.NOTHING);
        c.due("room again", x.attribute(-1, 'd', 2, 9, 8), 0);
        c.due("the middle", x.drop(-1, 'c'), 0);
        c.due("one of a variable", x.drop(0, 'z'), 0);
        c.due("seal()", x.seal(), 8 + 8 + 8 + 24 + 20 + 8 + 32 + 4);
        c.due("in DATA", x.drop(-1, 'b'), SlabImage.MODE);
        c.dueImage("what is left", x, new Bytes().start(0).words(0, 0).words(12, 2)
                .name('b').words(4, 2, 3, 4).name('d').words(2, 2).bytes(9, 8, 0, 0)
                .words(11, 1).name('A').words(0, 0, 0, 1, 4, 108).bytes(-127, 0, 0, 0).all());
        x.redefine();
        c.due("the last of the list", x.drop(-1, 'd'), 0);
        c.due("the only one", x.drop(-1, 'b'), 0);
        c.due("seal() of an empty list", x.seal(), 68);
        c.due("its kind is 0", x.eight(2), 0L);
    }

    private static void rename(Check c) {
        SlabImage x = new SlabImage();
        x.dimension('a', 1);
        x.dimension('b', 1);
        x.variable('A', 1, 0, -1);
        x.variable('B', 1, 1, -1);
        c.due("no dimension 2", x.rename(false, 2, 'c'), SlabImage.NOTHING);
        c.due("no dimension -1", x.rename(false, -1, 'c'), SlabImage.NOTHING);
        c.due("no variable 2", x.rename(true, 2, 'c'), SlabImage.NOTHING);
        c.due("no variable -1", x.rename(true, -1, 'c'), SlabImage.NOTHING);
        c.due("NOTHING before BAD", x.rename(true, 2, 0), SlabImage.NOTHING);
        c.due("name 32", x.rename(true, 0, 32), SlabImage.BAD);
        c.due("name 127", x.rename(false, 0, 127), SlabImage.BAD);
        c.due("taken dimension", x.rename(false, 0, 'b'), SlabImage.TAKEN);
        c.due("taken variable", x.rename(true, 1, 'A'), SlabImage.TAKEN);
        c.due("its own name", x.rename(true, 1, 'B'), 0);
        c.due("a dimension's name", x.rename(true, 1, 'a'), 0);
        c.due("a variable's name", x.rename(false, 1, 'A'), 0);
        c.due("the old name is free", x.dimension('b', 1), 2);
        c.due("the new name is taken", x.dimension('A', 1), SlabImage.TAKEN);
        x.seal();
        c.due("in DATA", x.rename(true, 0, 'Z'), SlabImage.MODE);
        c.due("in DATA, none", x.rename(false, 9, 0), SlabImage.MODE);
        c.due("dimension 1 in the image", x.eight(4), ((long) 'A' << 56) + 1);
    }

    private static void seal(Check c) {
        SlabImage x = new SlabImage();
        x.dimension('a', 3);
        x.variable('A', 1, 0, -1);
        c.due("seal()", x.seal(), 32 + 12 + 36 + 4);
        c.due("size()", x.size(), 84);
        c.due("in DATA", x.seal(), SlabImage.MODE);
        c.due("put after it", x.put(0, 0, 0, 1), 0);
    }

    /** A store of 800 bytes and one of 804, made small enough again by a drop. */
    private static void sealTooBig(Check c) {
        SlabImage x = new SlabImage();
        x.dimension('a', 8);
        x.variable('A', 4, 0, 0);
        x.variable('B', 4, 0, 0);
        x.variable('C', 4, 0, -1);
        x.variable('D', 4, -1, -1);
        x.attribute(-1, 'a', 1, 0, 0);
        int bytes = 32 + 12 + 20 + 40 + 40 + 36 + 32 + 256 + 256 + 32 + 4;
        c.due("seal()", x.seal(), bytes);
        x.redefine();
        x.attribute(-1, 'b', 1, 0, 0);
        c.due("one more attribute", x.seal(), bytes + 20);
        x.redefine();
        x.attribute(0, 'b', 1, 0, 0);
        c.due("800 bytes", x.seal(), 800);
        c.due("put at 800 bytes", x.put(3, 0, 0, 77), 0);
        x.redefine();
        x.attribute(0, 'b', 4, 0, 0);
        c.due("804 bytes", x.seal(), SlabImage.TOOBIG);
        c.due("still DEFINING", x.size(), SlabImage.MODE);
        c.due("a drop", x.drop(0, 'b'), 0);
        c.due("small enough again", x.seal(), 780);
        c.due("the cell stays", x.get(3, 0, 0), 77);
    }

    private static void redefine(Check c) {
        SlabImage x = new SlabImage();
        c.due("DEFINING", x.redefine(), SlabImage.MODE);
        x.dimension('t', 0);
        x.dimension('a', 3);
        x.variable('A', 1, 0, 1);
        x.variable('B', 3, 1, -1);
        x.seal();
        x.put(0, 2, 1, 9);
        x.put(1, 2, 0, -8);
        c.due("redefine()", x.redefine(), 0);
        c.due("records stay", x.records(), 3);
        c.due("once more", x.redefine(), SlabImage.MODE);
        x.attribute(-1, 'q', 4, 1, 1);
        c.due("a second record variable", x.variable('C', 2, 0, -1), 2);
        c.due("a third one of INT", x.variable('D', 4, 0, 1), 3);
        x.seal();
        c.due("records still stay", x.records(), 3);
        c.due("a record's cell stays", x.get(0, 2, 1), 9);
        c.due("a fixed cell stays", x.get(1, 2, 0), -8);
        c.due("fill in an old record", x.get(3, 2, 2), -2147483647);
        c.due("fill of TEXT there", x.get(2, 0, 0), 0);
        c.due("no record 3", x.get(3, 3, 2), SlabImage.NOVALUE);
    }
}
