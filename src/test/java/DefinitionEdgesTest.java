/** The boundary cases that promises 1 to 8 name, sentence by sentence. */
public final class DefinitionEdgesTest {
    private static final int MIN = Integer.MIN_VALUE;
    private static final int MAX = Integer.MAX_VALUE;
    private static final int[] NO_NAMES = {MIN, -1, 0, 10, 32, 127, 128, 255, 256 + 'z', 65536 + 'z', MAX};
    private static final int[] NO_TYPES = {MIN, -1, 0, 5, 256 + 1, 65536 + 4, MAX};

    public static void main(String[] args) {
        Check check = new Check();
        check.sentence("1: without dimensions, variables and attributes", DefinitionEdgesTest::newStore);
        check.sentence("1: both selections are start 0, count 1, stride 1", DefinitionEdgesTest::newSelections);
        check.sentence("1: the draft has no bytes", DefinitionEdgesTest::newDraft);
        check.sentence("2: BAD when name is not 33 .. 126", DefinitionEdgesTest::noNameOfDimension);
        check.sentence("2: BAD when length is not 0 .. 8", DefinitionEdgesTest::lengths);
        check.sentence("2: TAKEN when a dimension has that name", DefinitionEdgesTest::dimensionTaken);
        check.sentence("2: FULL when there are four", DefinitionEdgesTest::fourDimensions);
        check.sentence("2: FULL when length is 0 and there is a growing one", DefinitionEdgesTest::secondGrowing);
        check.sentence("3: no axis when a and b are -1, one when b alone is -1", DefinitionEdgesTest::axisCounts);
        check.sentence("3: all its cells hold the fill value", DefinitionEdgesTest::fillValues);
        check.sentence("3: BAD when name is not 33 .. 126", DefinitionEdgesTest::noNameOfVariable);
        check.sentence("3: BAD when type is not 1 .. 4", DefinitionEdgesTest::noTypeOfVariable);
        check.sentence("3: NOTHING when a or b is neither -1 nor a dimension", DefinitionEdgesTest::noDimension);
        check.sentence("3: NOTHING when a is -1 and b is not", DefinitionEdgesTest::secondAxisAlone);
        check.sentence("3: BAD when b is the growing dimension", DefinitionEdgesTest::growingSecondAxis);
        check.sentence("3: TAKEN when a variable has that name", DefinitionEdgesTest::variableTaken);
        check.sentence("3: FULL when there are five", DefinitionEdgesTest::fiveVariables);
        check.sentence("4: in its place", DefinitionEdgesTest::attributeInPlace);
        check.sentence("4: a new one at the end of the list", DefinitionEdgesTest::attributeAtEnd);
        check.sentence("4: NOTHING when v is neither -1 nor a variable", DefinitionEdgesTest::noListOfAttribute);
        check.sentence("4: BAD when name is not 33 .. 126", DefinitionEdgesTest::noNameOfAttribute);
        check.sentence("4: BAD when type is not 1 .. 4", DefinitionEdgesTest::noTypeOfAttribute);
        check.sentence("4: RANGE when x or y is no value of the type", DefinitionEdgesTest::attributeRange);
        check.sentence("4: FULL when a new one is needed and there are three", DefinitionEdgesTest::threeAttributes);
        check.sentence("5: those behind it move up", DefinitionEdgesTest::dropMovesUp);
        check.sentence("5: NOTHING when v is neither -1 nor a variable", DefinitionEdgesTest::noListOfDrop);
        check.sentence("5: NOTHING when there is none with that name", DefinitionEdgesTest::noneToDrop);
        check.sentence("6: NOTHING when there is none", DefinitionEdgesTest::noneToRename);
        check.sentence("6: BAD when name is not 33 .. 126", DefinitionEdgesTest::renameToNoName);
        check.sentence("6: TAKEN when another one of them has that name", DefinitionEdgesTest::renameTaken);
        check.sentence("6: its own name is not taken by another one", DefinitionEdgesTest::renameToOwnName);
        check.sentence("7: answers the number of bytes of the image", DefinitionEdgesTest::sealAnswers);
        check.sentence("8: all cells and the number of records stay", DefinitionEdgesTest::redefineKeeps);
        check.end();
    }

    private static void newStore(Check c) {
        SlabImage x = new SlabImage();
        c.due("no dimension to rename", x.rename(false, 0, 'a'), SlabImage.NOTHING);
        c.due("no variable to rename", x.rename(true, 0, 'a'), SlabImage.NOTHING);
        c.due("no axis", x.variable('A', 1, 0, -1), SlabImage.NOTHING);
        c.due("no list of a variable", x.attribute(0, 'a', 1, 0, 0), SlabImage.NOTHING);
        c.due("records()", x.records(), 0);
        c.due("seal()", x.seal(), 32);
        c.dueImage("nothing in it", x, Images.empty());
        c.due("no variable", x.begin(0), SlabImage.NOTHING);
    }

    private static void newSelections(Check c) {
        SlabImage x = new SlabImage();
        Bytes.open(x, Images.oneVariable(0, new int[] {2}, new int[] {0, 0}, 1, 4, 1, 2, 3, 4));
        c.due("cell 0", x.getSlab(0, 0), 1);
        c.due("no cell 1", x.getSlab(0, 1), SlabImage.NOVALUE);
        c.due("one cell", x.putSlab(0, 9, 1), 1);
        c.due("at 0, 0", x.get(0, 0, 0), 9);
        c.due("not at 0, 1", x.get(0, 0, 1), 2);
        c.due("not at 1, 0", x.get(0, 1, 0), 3);
    }

    private static void newDraft(Check c) {
        SlabImage x = new SlabImage();
        c.due("open()", x.open(), SlabImage.MALFORMED);
        for (int k = 0; k < 100; k++) {
            c.due("room for eight bytes", x.add(0, 8), true);
        }
        c.due("no room for one more", x.add(0, 1), false);
        SlabImage y = new SlabImage();
        int[] row = Images.empty();
        for (int k = 0; k < row.length; k++) {
            y.add((long) row[k] << 56, 1);
        }
        c.due("open() of what was added", y.open(), 32);
    }

    private static void noNameOfDimension(Check c) {
        for (int name : NO_NAMES) {
            c.refused("dimension " + name, Sample::defining, x -> x.dimension(name, 1), SlabImage.BAD);
        }
        c.due("the lowest", Sample.defining().dimension(33, 1), 3);
        c.due("the highest", Sample.defining().dimension(126, 1), 3);
    }

    private static void lengths(Check c) {
        for (int length = 0; length <= 8; length++) {
            SlabImage x = new SlabImage();
            c.due("length " + length, x.dimension('a', length), 0);
            x.seal();
            c.dueImage("length " + length, x, Images.dimensions('a', length));
        }
        for (int length : new int[] {MIN, -8, -1, 9, 256, 257, MAX}) {
            c.refused("length " + length, Sample::defining, x -> x.dimension('z', length), SlabImage.BAD);
        }
    }

    private static void dimensionTaken(Check c) {
        c.refused("the first one's name", Sample::defining, x -> x.dimension('a', 1), SlabImage.TAKEN);
        c.refused("the growing one's name", Sample::defining, x -> x.dimension('t', 1), SlabImage.TAKEN);
        c.refused("the last one's name", Sample::defining, x -> x.dimension('b', 1), SlabImage.TAKEN);
        c.due("a variable's name", Sample.defining().dimension('A', 1), 3);
        c.due("an attribute's name", Sample.defining().dimension('p', 1), 3);
        SlabImage x = Sample.defining();
        x.rename(false, 0, 'z');
        c.due("a name of before", x.dimension('a', 1), 3);
        c.due("a name of now", x.dimension('z', 1), SlabImage.TAKEN);
    }

    private static void fourDimensions(Check c) {
        SlabImage x = new SlabImage();
        c.due("number 0", x.dimension('a', 1), 0);
        c.due("number 1", x.dimension('b', 2), 1);
        c.due("number 2", x.dimension('c', 3), 2);
        c.due("number 3", x.dimension('d', 0), 3);
        x.seal();
        c.dueImage("four", x, Images.dimensions('a', 1, 'b', 2, 'c', 3, 'd', 0));
        c.refused("a fifth", Sample::crowded, y -> y.dimension('z', 1), SlabImage.FULL);
        c.refused("a fifth that grows", Sample::crowded, y -> y.dimension('z', 0), SlabImage.FULL);
        c.refused("a fifth, none growing", DefinitionEdgesTest::fourFixed, y -> y.dimension('z', 0), SlabImage.FULL);
    }

    private static SlabImage fourFixed() {
        SlabImage x = new SlabImage();
        for (int k = 0; k < 4; k++) {
            x.dimension('a' + k, 1 + k);
        }
        return x;
    }

    private static void secondGrowing(Check c) {
        c.refused("a second growing one", Sample::defining, x -> x.dimension('z', 0), SlabImage.FULL);
        c.due("one that does not grow", Sample.defining().dimension('z', 8), 3);
        SlabImage x = new SlabImage();
        c.due("the first that grows", x.dimension('a', 0), 0);
        c.due("a second", x.dimension('b', 0), SlabImage.FULL);
        c.due("its name is free", x.dimension('b', 1), 1);
        c.due("a second, later", x.dimension('c', 0), SlabImage.FULL);
        SlabImage y = new SlabImage();
        y.dimension('a', 1);
        y.dimension('b', 1);
        y.dimension('c', 1);
        c.due("the first that grows is the fourth", y.dimension('d', 0), 3);
    }

    private static void axisCounts(Check c) {
        SlabImage x = new SlabImage();
        x.dimension('a', 2);
        x.dimension('t', 0);
        c.due("a and b -1", x.variable('A', 4, -1, -1), 0);
        c.due("b alone -1", x.variable('B', 4, 0, -1), 1);
        c.due("none -1", x.variable('C', 4, 0, 0), 2);
        c.due("the growing one and -1", x.variable('D', 4, 1, -1), 3);
        c.due("the growing one and another", x.variable('E', 4, 1, 0), 4);
        x.seal();
        int fill = -2147483647;
        c.dueImage("five shapes", x, new Bytes().start(0).words(10, 2).name('a').words(2).name('t').words(0)
                .words(0, 0).words(11, 5).name('A').words(0, 0, 0, 4, 4, 240).name('B').words(1, 0, 0, 0, 4, 8, 244)
                .name('C').words(2, 0, 0, 0, 0, 4, 16, 252).name('D').words(1, 1, 0, 0, 4, 4, 268)
                .name('E').words(2, 1, 0, 0, 0, 4, 8, 272)
                .words(fill, fill, fill, fill, fill, fill, fill).all());
    }

    /** An empty store, DEFINING, on an object that had other variables with values in their cells, twice. */
    private static SlabImage afterOthers() {
        SlabImage x = Sample.withSelections(Sample.data(), new int[] {0, 3, 1}, new int[] {0, 2, 1});
        x.putSlab(0, 1, 1);
        x.putSlab(1, 1, 1);
        Bytes.open(x, Images.scalars("ABCDE"));
        Bytes.open(x, Images.oneGrowing(5, 2, 0, 1, 15));
        Bytes.open(x, Images.empty());
        x.redefine();
        return x;
    }

    private static void fillValues(Check c) {
        int[] fill = {0, -127, 0, -32767, -2147483647};
        for (int type = 1; type <= 4; type++) {
            SlabImage x = Sample.data();
            x.redefine();
            x.variable('z', type, 1, 0);
            x.seal();
            for (int i = 0; i < 2; i++) {
                for (int j = 0; j < 3; j++) {
                    c.due("a record's cell of type " + type, x.get(4, i, j), fill[type]);
                }
            }
            SlabImage y = afterOthers();
            y.dimension('a', 8);
            y.variable('A', type, 0, 0);
            y.seal();
            for (int k = 0; k < 64; k++) {
                c.due("a cell of type " + type, y.get(0, k / 8, k % 8), fill[type]);
            }
            SlabImage z = afterOthers();
            z.dimension('t', 0);
            z.variable('A', 1, -1, -1);
            z.variable('B', type, 0, -1);
            z.seal();
            z.put(1, 9, 0, 1);
            for (int i = 0; i < 9; i++) {
                c.due("a later record's cell of type " + type, z.get(1, i, 0), fill[type]);
            }
        }
    }

    private static void noNameOfVariable(Check c) {
        for (int name : NO_NAMES) {
            c.refused("variable " + name, Sample::defining, x -> x.variable(name, 1, -1, -1), SlabImage.BAD);
        }
        c.due("the lowest", Sample.defining().variable(33, 1, -1, -1), 4);
        c.due("the highest", Sample.defining().variable(126, 1, -1, -1), 4);
    }

    private static void noTypeOfVariable(Check c) {
        for (int type : NO_TYPES) {
            c.refused("type " + type, Sample::defining, x -> x.variable('z', type, 0, -1), SlabImage.BAD);
        }
        for (int type = 1; type <= 4; type++) {
            c.due("type " + type, Sample.defining().variable('z', type, 0, -1), 4);
        }
    }

    private static void noDimension(Check c) {
        for (int k : new int[] {MIN, -3, -2, 3, 4, MAX}) {
            c.refused("a is " + k, Sample::defining, x -> x.variable('z', 1, k, -1), SlabImage.NOTHING);
            c.refused("a is " + k + ", b is not", Sample::defining, x -> x.variable('z', 1, k, 0), SlabImage.NOTHING);
            c.refused("b is " + k, Sample::defining, x -> x.variable('z', 1, 0, k), SlabImage.NOTHING);
            c.refused("both are " + k, Sample::defining, x -> x.variable('z', 1, k, k), SlabImage.NOTHING);
        }
        c.due("the last dimension", Sample.defining().variable('z', 1, 2, 2), 4);
    }

    private static void secondAxisAlone(Check c) {
        for (int b = 0; b < 3; b++) {
            int axis = b;
            c.refused("b alone is " + b, Sample::defining, x -> x.variable('z', 1, -1, axis), SlabImage.NOTHING);
        }
    }

    private static void growingSecondAxis(Check c) {
        c.refused("b grows", Sample::defining, x -> x.variable('z', 1, 0, 1), SlabImage.BAD);
        c.refused("a and b grow", Sample::defining, x -> x.variable('z', 1, 1, 1), SlabImage.BAD);
        c.due("a grows", Sample.defining().variable('z', 1, 1, 2), 4);
    }

    private static void variableTaken(Check c) {
        c.refused("the first one's name", Sample::defining, x -> x.variable('A', 1, -1, -1), SlabImage.TAKEN);
        c.refused("the last one's name", Sample::defining, x -> x.variable('D', 1, -1, -1), SlabImage.TAKEN);
        c.due("a dimension's name", Sample.defining().variable('a', 1, -1, -1), 4);
        c.due("an attribute's name", Sample.defining().variable('p', 1, -1, -1), 4);
        SlabImage x = Sample.defining();
        x.rename(true, 0, 'z');
        c.due("a name of now", x.variable('z', 1, -1, -1), SlabImage.TAKEN);
        c.due("a name of before", x.variable('A', 1, -1, -1), 4);
    }

    private static SlabImage fiveScalars() {
        SlabImage x = new SlabImage();
        for (int k = 0; k < 5; k++) {
            x.variable('A' + k, 4, -1, -1);
        }
        return x;
    }

    private static void fiveVariables(Check c) {
        SlabImage x = new SlabImage();
        for (int k = 0; k < 5; k++) {
            c.due("number " + k, x.variable('A' + k, 4, -1, -1), k);
        }
        x.seal();
        for (int k = 0; k < 5; k++) {
            x.put(k, 0, 0, k);
        }
        c.dueImage("five", x, Images.scalars("ABCDE"));
        c.refused("a sixth, without dimensions", DefinitionEdgesTest::fiveScalars,
                y -> y.variable('z', 1, -1, -1), SlabImage.FULL);
        c.refused("a sixth", Sample::crowded, y -> y.variable('z', 1, -1, -1), SlabImage.FULL);
        c.refused("a sixth with axes", Sample::crowded, y -> y.variable('z', 1, 1, 0), SlabImage.FULL);
    }

    /** A variable A with one INT; list v (the store's, or the variable's) has attributes, the other one has none. */
    private static SlabImage withAttributes(int v, int[]... attributes) {
        SlabImage x = new SlabImage();
        x.variable('A', 4, -1, -1);
        for (int[] a : attributes) {
            x.attribute(v, a[0], a[1], a[2], a[3]);
        }
        return x;
    }

    private static int[] imageWith(int v, int[]... attributes) {
        Bytes list = new Bytes().words(attributes.length == 0 ? 0 : 12, attributes.length);
        for (int[] a : attributes) {
            list.attribute(a[0], a[1], a[2], a[3]);
        }
        int[] none = {0, 0, 0, 0, 0, 0, 0, 0};
        return new Bytes().start(0).words(0, 0).bytes(v == -1 ? list.all() : none).words(11, 1).name('A').words(0)
                .bytes(v == -1 ? none : list.all()).words(4, 4, 56 + list.all().length, -2147483647).all();
    }

    private static void dueAttributes(Check c, String what, SlabImage x, int v, int[]... attributes) {
        x.seal();
        c.dueImage(what + " in list " + v, x, imageWith(v, attributes));
        x.redefine();
    }

    private static void attributeInPlace(Check c) {
        int[][] changed = {{'a', 4, 1, -1}, {'b', 2, 200, 201}, {'c', 1, -3, 4}};
        for (int v = -1; v <= 0; v++) {
            for (int k = 0; k < 3; k++) {
                int[][] all = {{'a', 3, 5, 6}, {'b', 3, 7, 8}, {'c', 3, 9, 10}};
                SlabImage x = withAttributes(v, all);
                all[k] = changed[k];
                c.due("of a full list", x.attribute(v, all[k][0], all[k][1], all[k][2], all[k][3]), 0);
                dueAttributes(c, "attribute " + k + " in its place", x, v, all);
            }
        }
    }

    private static void attributeAtEnd(Check c) {
        int[][] all = {{'b', 1, 5, 6}, {'c', 4, 7, 8}, {'a', 3, 9, 10}};
        for (int v = -1; v <= 0; v++) {
            SlabImage x = withAttributes(v);
            dueAttributes(c, "none", x, v);
            c.due("the first", x.attribute(v, 'b', 1, 5, 6), 0);
            dueAttributes(c, "one", x, v, all[0]);
            c.due("the second", x.attribute(v, 'c', 4, 7, 8), 0);
            dueAttributes(c, "two", x, v, all[0], all[1]);
            c.due("the third", x.attribute(v, 'a', 3, 9, 10), 0);
            dueAttributes(c, "three", x, v, all);
        }
    }

    private static void noListOfAttribute(Check c) {
        for (int v : new int[] {MIN, -3, -2, 4, 5, MAX}) {
            c.refused("list " + v, Sample::defining, x -> x.attribute(v, 'z', 1, 0, 0), SlabImage.NOTHING);
        }
        c.due("the last variable's", Sample.defining().attribute(3, 'z', 1, 0, 0), 0);
        c.due("the store's", Sample.defining().attribute(-1, 'z', 1, 0, 0), 0);
    }

    private static void noNameOfAttribute(Check c) {
        for (int v = -1; v <= 0; v++) {
            int list = v;
            for (int name : NO_NAMES) {
                c.refused("attribute " + name, Sample::defining, x -> x.attribute(list, name, 1, 0, 0), SlabImage.BAD);
            }
            c.due("the lowest", Sample.defining().attribute(v, 33, 1, 0, 0), 0);
            c.due("the highest", Sample.defining().attribute(v, 126, 1, 0, 0), 0);
        }
    }

    private static void noTypeOfAttribute(Check c) {
        for (int type : NO_TYPES) {
            c.refused("a new one", Sample::defining, x -> x.attribute(0, 'z', type, 0, 0), SlabImage.BAD);
            c.refused("one that is there", Sample::defining, x -> x.attribute(-1, 'p', type, 0, 0), SlabImage.BAD);
        }
        for (int type = 1; type <= 4; type++) {
            c.due("type " + type, Sample.defining().attribute(0, 'z', type, 0, 0), 0);
        }
    }

    private static void attributeRange(Check c) {
        int[] least = {0, -128, 0, -32768};
        int[] greatest = {0, 127, 255, 32767};
        for (int k = 1; k <= 3; k++) {
            int type = k;
            for (int value : new int[] {least[k] - 1, greatest[k] + 1, MIN, MAX}) {
                c.refused("x of type " + k, Sample::defining, x -> x.attribute(-1, 'p', type, value, 1), SlabImage.RANGE);
                c.refused("y of type " + k, Sample::defining, x -> x.attribute(-1, 'p', type, 1, value), SlabImage.RANGE);
                c.refused("both", Sample::defining, x -> x.attribute(1, 'z', type, value, value), SlabImage.RANGE);
            }
            c.due("the least", Sample.defining().attribute(-1, 'p', k, least[k], least[k]), 0);
            c.due("the greatest", Sample.defining().attribute(1, 'z', k, greatest[k], greatest[k]), 0);
        }
        c.due("any int", Sample.defining().attribute(-1, 'p', 4, MIN, MAX), 0);
    }

    private static void threeAttributes(Check c) {
        for (int v = -1; v <= 1; v += 2) {
            int list = v;
            c.refused("a fourth in list " + v, Sample::crowded, x -> x.attribute(list, 'z', 1, 0, 0), SlabImage.FULL);
            c.due("one that is there", Sample.crowded().attribute(v, 'r', 1, 0, 0), 0);
        }
        SlabImage x = Sample.crowded();
        c.due("another list is not full", x.attribute(0, 'z', 1, 0, 0), 0);
        c.due("a fourth of the store", x.attribute(-1, 'z', 1, 0, 0), SlabImage.FULL);
        x.drop(-1, 'q');
        c.due("a third of the store", x.attribute(-1, 'z', 1, 0, 0), 0);
        c.due("a fourth again", x.attribute(-1, 'q', 1, 0, 0), SlabImage.FULL);
    }

    private static void dropMovesUp(Check c) {
        int[][] all = {{'a', 3, 5, 6}, {'b', 4, 7, 8}, {'c', 1, 9, 10}};
        for (int v = -1; v <= 0; v++) {
            SlabImage x = withAttributes(v, all);
            c.due("the first", x.drop(v, 'a'), 0);
            dueAttributes(c, "two left", x, v, all[1], all[2]);
            c.due("the first of two", x.drop(v, 'b'), 0);
            dueAttributes(c, "one left", x, v, all[2]);
            c.due("the only one", x.drop(v, 'c'), 0);
            dueAttributes(c, "none left", x, v);
            SlabImage y = withAttributes(v, all);
            c.due("the middle one", y.drop(v, 'b'), 0);
            dueAttributes(c, "two left", y, v, all[0], all[2]);
            c.due("the last one", y.drop(v, 'c'), 0);
            dueAttributes(c, "one left", y, v, all[0]);
            c.due("it comes back at the end", y.attribute(v, 'b', 4, 7, 8), 0);
            dueAttributes(c, "two again", y, v, all[0], all[1]);
        }
    }

    private static void noListOfDrop(Check c) {
        for (int v : new int[] {MIN, -3, -2, 4, 5, MAX}) {
            c.refused("list " + v, Sample::defining, x -> x.drop(v, 'p'), SlabImage.NOTHING);
        }
    }

    private static void noneToDrop(Check c) {
        for (int name : new int[] {MIN, -1, 0, 32, 'r', 127, 256 + 'p', MAX}) {
            c.refused("the store has no " + name, Sample::defining, x -> x.drop(-1, name), SlabImage.NOTHING);
            c.refused("a variable has no " + name, Sample::defining, x -> x.drop(1, name), SlabImage.NOTHING);
        }
        c.refused("one of another list", Sample::defining, x -> x.drop(1, 'q'), SlabImage.NOTHING);
        c.refused("an empty list", Sample::defining, x -> x.drop(0, 'p'), SlabImage.NOTHING);
        SlabImage x = Sample.crowded();
        c.due("the last of three", x.drop(-1, 'r'), 0);
        c.due("once more", x.drop(-1, 'r'), SlabImage.NOTHING);
        c.due("the first", x.drop(-1, 'p'), 0);
        c.due("once more", x.drop(-1, 'p'), SlabImage.NOTHING);
    }

    private static void noneToRename(Check c) {
        for (int k : new int[] {MIN, -2, -1, 4, 5, MAX}) {
            c.refused("variable " + k, Sample::defining, x -> x.rename(true, k, 'z'), SlabImage.NOTHING);
        }
        for (int k : new int[] {MIN, -2, -1, 3, 4, MAX}) {
            c.refused("dimension " + k, Sample::defining, x -> x.rename(false, k, 'z'), SlabImage.NOTHING);
        }
        c.due("the last variable", Sample.defining().rename(true, 3, 'z'), 0);
        c.due("the last dimension", Sample.defining().rename(false, 2, 'z'), 0);
    }

    private static void renameToNoName(Check c) {
        for (int name : NO_NAMES) {
            c.refused("a dimension to " + name, Sample::defining, x -> x.rename(false, 0, name), SlabImage.BAD);
            c.refused("a variable to " + name, Sample::defining, x -> x.rename(true, 0, name), SlabImage.BAD);
        }
        for (boolean variable : new boolean[] {false, true}) {
            c.due("to the lowest", Sample.defining().rename(variable, 0, 33), 0);
            c.due("to the highest", Sample.defining().rename(variable, 0, 126), 0);
        }
    }

    private static void renameTaken(Check c) {
        for (int k = 0; k < 3; k++) {
            int number = k;
            for (int name : new int[] {'a', 't', 'b'}) {
                if ("atb".charAt(k) != name) {
                    c.refused("dimension " + k, Sample::defining, x -> x.rename(false, number, name), SlabImage.TAKEN);
                }
            }
            c.refused("variable " + k, Sample::defining, x -> x.rename(true, number, 'D'), SlabImage.TAKEN);
            c.refused("variable 3", Sample::defining, x -> x.rename(true, 3, 'A' + number), SlabImage.TAKEN);
        }
        c.due("a dimension to a variable's name", Sample.defining().rename(false, 0, 'A'), 0);
        c.due("a variable to a dimension's name", Sample.defining().rename(true, 0, 'a'), 0);
        c.due("a variable to an attribute's name", Sample.defining().rename(true, 1, 'p'), 0);
    }

    private static void renameToOwnName(Check c) {
        c.refused("dimension 1, answered with 0", Sample::defining, x -> x.rename(false, 1, 't'), 0);
        c.refused("variable 3, answered with 0", Sample::defining, x -> x.rename(true, 3, 'D'), 0);
    }

    private static void sealAnswers(Check c) {
        c.due("an empty store", new SlabImage().seal(), 32);
        SlabImage x = Sample.defining();
        c.due("the sample", x.seal(), 316);
        c.due("size()", x.size(), 316);
        c.due("now it is DATA", x.seal(), SlabImage.MODE);
        c.due("redefine()", x.redefine(), 0);
        c.due("once more", x.seal(), 316);
    }

    private static SlabImage redefined() {
        SlabImage x = Sample.data();
        x.redefine();
        x.seal();
        return x;
    }

    private static void redefineKeeps(Check c) {
        c.dueAlike("redefine() and seal(), or neither", DefinitionEdgesTest::redefined, Sample::data);
        SlabImage y = Sample.data();
        y.redefine();
        y.dimension('c', 5);
        y.variable('E', 4, 1, 3);
        y.attribute(1, 'x', 4, 1, 1);
        y.rename(true, 1, 'x');
        y.rename(false, 1, 'x');
        c.due("records()", y.records(), 2);
        c.due("seal()", y.seal(), 316 + 12 + 40 + 24 + 2 * 20);
        c.due("A", y.get(0, 1, 1), 13);
        c.due("B", y.get(1, 1, 1), 303);
        c.due("C", y.get(2, 0, 0), 70000);
        c.due("D", y.get(3, 1, 0), 'D');
        c.due("E in record 1", y.get(4, 1, 4), -2147483647);
        c.due("E has no record 2", y.get(4, 2, 4), SlabImage.NOVALUE);
    }
}
