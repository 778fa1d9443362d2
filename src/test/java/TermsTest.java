/** The sentences of the section "Terms" that tell a limit of names, types, stores and cells. */
public final class TermsTest {
    private static final int MIN = Integer.MIN_VALUE;
    private static final int MAX = Integer.MAX_VALUE;

    public static void main(String[] args) {
        Check check = new Check();
        check.sentence("an object is used for at most 512 calls", TermsTest::lastCall);
        check.sentence("a NAME is one character 33 .. 126: all of them are names", TermsTest::allNames);
        check.sentence("a NAME is one character 33 .. 126: in a draft too", TermsTest::namesInDraft);
        check.sentence("a WORD is an int as four bytes, the highest first", TermsTest::words);
        check.sentence("1 BYTE: -128 .. 127, one byte, fill value -127", c -> type(c, 1, -128, 127, 1, -127));
        check.sentence("2 TEXT: 0 .. 255, one byte, fill 0", c -> type(c, 2, 0, 255, 1, 0));
        check.sentence("3 SHORT: -32768 .. 32767, two bytes, fill -32767", c -> type(c, 3, -32768, 32767, 2, -32767));
        check.sentence("4 INT: any int, four bytes, fill -2147483647", c -> type(c, 4, MIN, MAX, 4, -2147483647));
        check.sentence("a value is written highest byte first, negative ones as two's complements", TermsTest::values);
        check.sentence("TYPES are 1 to 4: in a draft too", TermsTest::types);
        check.sentence("at most 4 dimensions", TermsTest::atMostFourDimensions);
        check.sentence("no two dimensions have the same name", TermsTest::dimensionNames);
        check.sentence("a length is 1 .. 8, or 0", TermsTest::lengths);
        check.sentence("at most one dimension is the growing one", TermsTest::oneGrowingDimension);
        check.sentence("at most 5 variables", TermsTest::atMostFiveVariables);
        check.sentence("no two variables have the same name", TermsTest::variableNames);
        check.sentence("0, 1 or 2 axes", TermsTest::axes);
        check.sentence("each axis a dimension", TermsTest::axesAreDimensions);
        check.sentence("both axes may be the same dimension", TermsTest::equalAxes);
        check.sentence("only the first axis may be the growing dimension", TermsTest::growingAxis);
        check.sentence("lists of at most 3 attributes", TermsTest::atMostThreeAttributes);
        check.sentence("no two attributes in a list have the same name", TermsTest::attributeNames);
        check.sentence("an attribute has two values of its type", TermsTest::attributeValues);
        check.sentence("the number of records is the length of a record variable's first axis", TermsTest::recordAxis);
        check.sentence("without record variable the number of records is 0", TermsTest::noRecordVariable);
        check.sentence("a cell for each i and j below the lengths", TermsTest::cells);
        check.sentence("in the place of an axis that it has not, the number is 0 alone", TermsTest::absentAxes);
        check.end();
    }

    /** What the 513th call answers is free, but the 512th is still a call like any other. */
    private static void lastCall(Check c) {
        SlabImage x = new SlabImage();
        x.dimension('t', 0);
        x.variable('A', 2, 0, -1);
        x.seal();
        for (int i = 0; i < 254; i++) {
            c.due("put", x.put(0, i, 0, 255 - i), 0);
            c.due("get", x.get(0, i, 0), 255 - i);
        }
        c.due("the 512th call", x.size(), 80 + 254);
        SlabImage y = new SlabImage();
        int[] row = Images.oneVariable(431, new int[] {0}, new int[] {0}, 1, 4, new int[431]);
        for (int k = 0; k < row.length; k++) {
            c.due("add", y.add((long) row[k] << 56, 1), true);
        }
        c.due("the 512th call", y.open(), 511);
    }

    private static void allNames(Check c) {
        for (int name = 33; name <= 126; name++) {
            SlabImage x = new SlabImage();
            int other = name == 'z' ? 'y' : 'z';
            c.due("dimension " + name, x.dimension(name, 1), 0);
            c.due("variable " + name, x.variable(name, 4, -1, -1), 0);
            c.due("attribute " + name, x.attribute(-1, name, 4, 0, 0), 0);
            c.due("its attribute " + name, x.attribute(0, name, 4, 0, 0), 0);
            x.dimension(other, 2);
            x.variable(other, 2, -1, -1);
            c.due("a dimension to another name", x.rename(false, 0, name == '!' ? '"' : '!'), 0);
            c.due("a dimension to " + name, x.rename(false, 1, name), 0);
            c.due("a variable to another name", x.rename(true, 0, name == '~' ? '}' : '~'), 0);
            c.due("a variable to " + name, x.rename(true, 1, name), 0);
            x.seal();
            c.dueImage("name " + name, x, new Bytes().start(0)
                    .words(10, 2).name(name == '!' ? '"' : '!').words(1).name(name).words(2)
                    .words(12, 1).name(name).words(4, 2, 0, 0)
                    .words(11, 2).name(name == '~' ? '}' : '~').words(0).words(12, 1).name(name).words(4, 2, 0, 0)
                    .words(4, 4, 168).name(name).words(0, 0, 0, 2, 4, 172)
                    .words(-2147483647, 0).all());
        }
    }

    private static void namesInDraft(Check c) {
        for (int name : new int[] {33, 126}) {
            c.opens("a dimension " + name, Images.dimensions(name, 1));
            c.opens("an attribute " + name, Images.storeAttributes(1, "" + (char) name));
            c.opens("an attribute of a variable " + name, Images.variableAttributes(1, "" + (char) name));
            c.opens("a variable " + name, Images.scalars("" + (char) name));
        }
        for (int name : new int[] {0, 32, 127, 128, 255}) {
            c.malformed("a dimension " + name, Images.dimensions(name, 1));
            c.malformed("an attribute " + name, Images.storeAttributes(1, "" + (char) name));
            c.malformed("an attribute of a variable " + name, Images.variableAttributes(1, "" + (char) name));
            c.malformed("a variable " + name, Images.scalars("" + (char) name));
        }
    }

    private static void words(Check c) {
        SlabImage x = new SlabImage();
        x.attribute(-1, 'a', 4, 0x01020304, 0xFEDCBA98);
        x.seal();
        c.due("the two values", x.eight(5), 0x01020304FEDCBA98L);
        SlabImage y = c.opens("two such values", Images.storeAttribute(4, 2, 1, 2, 3, 4, 0xFE, 0xDC, 0xBA, 0x98));
        c.due("the two values", y.eight(5), 0x01020304FEDCBA98L);

        SlabImage z = new SlabImage();
        z.dimension('t', 0);
        z.variable('A', 1, 0, -1);
        z.seal();
        z.put(0, 0x0102 - 1, 0, 0);
        c.due("258 records", z.eight(0), 0x4752440100000102L);
    }

    /** What the document tells of one type; the least and the greatest value stand at both ends of each list. */
    private static void type(Check c, int type, int least, int greatest, int width, int fill) {
        SlabImage x = new SlabImage();
        x.dimension('a', 4);
        x.variable('A', type, 0, -1);
        c.due("least and greatest in an attribute", x.attribute(-1, 'a', type, least, greatest), 0);
        c.due("greatest and least in an attribute", x.attribute(-1, 'b', type, greatest, least), 0);
        int header = 32 + 12 + 36 + 2 * (16 + (width == 4 ? 8 : 4));
        c.due("bytes of four cells", x.seal(), header + 4 * width);
        c.due("fill", x.get(0, 3, 0), fill);
        c.due("put of the least", x.put(0, 0, 0, least), 0);
        c.due("put of the greatest", x.put(0, 1, 0, greatest), 0);
        x.select(0, 2, 1, 1);
        c.due("putSlab of the least", x.putSlab(0, least, 0), 1);
        c.due("the least by a slab", x.get(0, 2, 0), least);
        c.due("putSlab of the greatest", x.putSlab(0, greatest, 0), 1);
        c.due("the greatest by a slab", x.get(0, 2, 0), greatest);
        c.due("the least", x.get(0, 0, 0), least);
        c.due("the greatest", x.get(0, 1, 0), greatest);
        SlabImage y = copy(x);
        for (int k = 0; k < 20; k++) {
            c.due("eight(" + k + "), taken over", y.eight(k), x.eight(k));
        }
        c.due("the least, taken over", y.get(0, 0, 0), least);
        c.due("the greatest, taken over", y.get(0, 1, 0), greatest);
        c.due("fill, taken over", y.get(0, 3, 0), fill);
        if (type < 4) {
            outOfRange(c, type, least - 1);
            outOfRange(c, type, greatest + 1);
            outOfRange(c, type, MIN);
            outOfRange(c, type, MAX);
        }
    }

    private static SlabImage copy(SlabImage x) {
        SlabImage y = new SlabImage();
        int size = x.size();
        for (int k = 0; k < size; k += 8) {
            y.add(x.eight(k / 8), Math.min(8, size - k));
        }
        y.open();
        return y;
    }

    private static void outOfRange(Check c, int type, int value) {
        c.refused("put of " + value, () -> twoOf(type), x -> x.put(0, 1, 0, value), SlabImage.RANGE);
        c.refused("putSlab from " + value, () -> twoOf(type), x -> x.putSlab(0, value, 1 - value), SlabImage.RANGE);
        c.refused("putSlab to " + value, () -> twoOf(type), x -> x.putSlab(0, 1, value - 1), SlabImage.RANGE);
    }

    /** A variable over a dimension of length 2, both cells selected. */
    private static SlabImage twoOf(int type) {
        SlabImage x = new SlabImage();
        x.dimension('a', 2);
        x.variable('A', type, 0, -1);
        x.seal();
        x.select(0, 0, 2, 1);
        x.putSlab(0, 5, 1);
        return x;
    }

    private static void values(Check c) {
        SlabImage x = new SlabImage();
        x.variable('A', 1, -1, -1);
        x.variable('B', 3, -1, -1);
        x.variable('C', 4, -1, -1);
        x.attribute(-1, 'a', 1, -2, 3);
        x.attribute(-1, 'b', 3, -258, 772);
        x.attribute(-1, 'c', 4, -16909060, 84281096);
        x.seal();
        x.put(0, 0, 0, -3);
        x.put(1, 0, 0, -515);
        x.put(2, 0, 0, -67305986);
        c.dueImage("negative values", x, new Bytes().start(0).words(0, 0).words(12, 3)
                .name('a').words(1, 2).bytes(254, 3, 0, 0)
                .name('b').words(3, 2).bytes(254, 254, 3, 4)
                .name('c').words(4, 2).bytes(254, 253, 252, 252).bytes(5, 6, 7, 8)
                .words(11, 3).name('A').words(0, 0, 0, 1, 4, 192).name('B').words(0, 0, 0, 3, 4, 196)
                .name('C').words(0, 0, 0, 4, 4, 200)
                .bytes(253, 0, 0, 0).bytes(253, 253, 0, 0).bytes(251, 252, 253, 254).all());
        SlabImage y = copy(x);
        c.due("BYTE taken over", y.get(0, 0, 0), -3);
        c.due("SHORT taken over", y.get(1, 0, 0), -515);
        c.due("INT taken over", y.get(2, 0, 0), -67305986);
    }

    private static void types(Check c) {
        for (int type : new int[] {MIN, -1, 0, 5, 256 + 1, 65536 + 4, MAX}) {
            c.malformed("an attribute of " + type, Images.storeAttribute(type, 2, 0, 0, 0, 0));
            c.malformed("a variable of " + type, Images.oneVariable(0, new int[0], new int[0], type, 4, 0, 0, 0, 0));
        }
    }

    private static void atMostFourDimensions(Check c) {
        c.opens("four dimensions", Images.dimensions('a', 1, 'b', 0, 'c', 8, 'd', 2));
        c.malformed("five dimensions", Images.dimensions('a', 1, 'b', 0, 'c', 8, 'd', 2, 'e', 1));
        for (int told : new int[] {MIN, -1, 5, MAX}) {
            c.malformed(told + " dimensions told", new Bytes().start(0).words(10, told, 0, 0, 0, 0).all());
        }
    }

    private static void dimensionNames(Check c) {
        c.malformed("two of one name", Images.dimensions('a', 1, 'a', 2));
        c.malformed("the first and the last of one name", Images.dimensions('a', 1, 'b', 2, 'c', 3, 'a', 4));
    }

    private static void lengths(Check c) {
        for (int length = 0; length <= 8; length++) {
            c.opens("a length " + length, Images.dimensions('a', length));
        }
        for (int length : new int[] {MIN, -1, 9, 256 + 1, MAX}) {
            c.malformed("a length " + length, Images.dimensions('a', length));
        }
    }

    private static void oneGrowingDimension(Check c) {
        c.opens("the last one grows", Images.dimensions('a', 1, 'b', 1, 'c', 0));
        c.malformed("two growing ones", Images.dimensions('a', 0, 'b', 0));
        c.malformed("the first and the last growing", Images.dimensions('a', 0, 'b', 1, 'c', 0));
    }

    private static void atMostFiveVariables(Check c) {
        c.opens("five variables", Images.scalars("ABCDE"));
        c.malformed("six variables", Images.scalars("ABCDEF"));
        for (int told : new int[] {MIN, -1, 6, MAX}) {
            c.malformed(told + " variables told", new Bytes().start(0).words(0, 0, 0, 0, 11, told).all());
        }
    }

    private static void variableNames(Check c) {
        c.malformed("two of one name", Images.scalars("AA"));
        c.malformed("the first and the last of one name", Images.scalars("ABCDA"));
        c.opens("a variable with the name of a dimension", new Bytes().start(0).words(10, 1).name('a').words(1)
                .words(0, 0, 11, 1).name('a').words(0, 0, 0, 4, 4, 76, 5).all());
    }

    private static void axes(Check c) {
        int[] lengths = {2, 3};
        c.opens("no axis", Images.oneVariable(0, lengths, new int[] {}, 1, 4, 1, 0, 0, 0));
        c.opens("one axis", Images.oneVariable(0, lengths, new int[] {0}, 1, 4, 1, 2, 0, 0));
        c.opens("two axes", Images.oneVariable(0, lengths, new int[] {0, 1}, 1, 8, 1, 2, 3, 4, 5, 6, 0, 0));
        c.malformed("three axes", Images.oneVariable(0, new int[] {1}, new int[] {0, 0, 0}, 1, 4, 1, 0, 0, 0));
        int[] none = Images.oneVariable(0, new int[] {1}, new int[] {}, 1, 4, 1, 0, 0, 0);
        for (int told : new int[] {3, 127, 255}) {
            c.malformed(told + " axes told", Images.with(none, 55, told));
        }
        c.malformed("-2147483648 axes told", Images.with(none, 52, 128));
    }

    private static void axesAreDimensions(Check c) {
        int[] lengths = {1, 1};
        for (int axis : new int[] {MIN, -2, -1, 2, 256, MAX}) {
            c.malformed("a first axis " + axis, Images.oneVariable(0, lengths, new int[] {axis}, 1, 4, 1, 0, 0, 0));
            c.malformed("a second axis " + axis, Images.oneVariable(0, lengths, new int[] {1, axis}, 1, 4, 1, 0, 0, 0));
            c.malformed("two axes from " + axis, Images.oneVariable(0, lengths, new int[] {axis, 1}, 1, 4, 1, 0, 0, 0));
        }
        c.malformed("an axis without dimensions", Images.oneVariable(0, new int[0], new int[] {0}, 1, 4, 1, 0, 0, 0));
    }

    private static void equalAxes(Check c) {
        SlabImage x = new SlabImage();
        x.dimension('a', 2);
        c.due("a variable over a and a", x.variable('A', 2, 0, 0), 0);
        x.seal();
        x.select(0, 0, 2, 1);
        x.select(1, 0, 2, 1);
        x.putSlab(0, 1, 1);
        c.dueImage("over a and a", x, Images.oneVariable(0, new int[] {2}, new int[] {0, 0}, 2, 4, 1, 2, 3, 4));
        c.opens("over a and a", Images.oneVariable(0, new int[] {2}, new int[] {0, 0}, 2, 4, 1, 2, 3, 4));
    }

    private static void growingAxis(Check c) {
        c.opens("the growing one first", Images.oneGrowing(2, 2, 0, 1, 6));
        c.malformed("the growing one second", Images.oneGrowing(0, 2, 1, 0, 0));
        c.malformed("the growing one second, with cells", Images.oneGrowing(0, 2, 1, 0, 4));
        c.malformed("the growing one twice", Images.oneGrowing(0, 2, 0, 0, 0));
        int[] lengths = {0, 1};
        for (int padded : new int[] {0, 4}) {
            c.malformed("the growing one second, no cells", Images.oneVariable(0, lengths, new int[] {1, 0}, 1, padded));
            c.malformed("the growing one twice, no cells", Images.oneVariable(0, lengths, new int[] {0, 0}, 1, padded));
            c.malformed("the growing one twice, two records", Images.oneVariable(2, lengths, new int[] {0, 0}, 1, padded));
        }
        c.malformed("the growing one twice, with records", Images.oneGrowing(2, 2, 0, 0, 4));
    }

    private static void atMostThreeAttributes(Check c) {
        c.opens("three of the store", Images.storeAttributes(3, "abc"));
        c.malformed("four of the store", Images.storeAttributes(4, "abcd"));
        c.opens("three of a variable", Images.variableAttributes(3, "abc"));
        c.malformed("four of a variable", Images.variableAttributes(4, "abcd"));
        for (int told : new int[] {MIN, -1, 4, MAX}) {
            c.malformed(told + " of the store told", Images.storeAttributes(told, ""));
            c.malformed(told + " of a variable told", Images.variableAttributes(told, ""));
        }
    }

    private static void attributeNames(Check c) {
        for (String names : new String[] {"aa", "aba", "baa", "aab"}) {
            c.malformed("one name twice in the store's list", Images.storeAttributes(names.length(), names));
            c.malformed("one name twice in a variable's list", Images.variableAttributes(names.length(), names));
        }
        SlabImage x = new SlabImage();
        x.variable('A', 4, -1, -1);
        x.variable('B', 4, -1, -1);
        c.due("in the store's list", x.attribute(-1, 'a', 3, 1, 2), 0);
        c.due("the same name in a variable's list", x.attribute(0, 'a', 3, 3, 4), 0);
        c.due("the same name in another one's list", x.attribute(1, 'a', 3, 5, 6), 0);
        x.seal();
        int[] want = new Bytes().start(0).words(0, 0).words(12, 1).name('a').words(3, 2).bytes(0, 1, 0, 2)
                .words(11, 2).name('A').words(0, 12, 1).name('a').words(3, 2).bytes(0, 3, 0, 4).words(4, 4, 156)
                .name('B').words(0, 12, 1).name('a').words(3, 2).bytes(0, 5, 0, 6).words(4, 4, 160)
                .words(-2147483647, -2147483647).all();
        c.dueImage("one name in three lists", x, want);
        c.opens("one name in three lists", want);
    }

    private static void attributeValues(Check c) {
        c.opens("two values", Images.storeAttribute(3, 2, 1, 2, 3, 4));
        for (int values : new int[] {MIN, -1, 0, 1, 3, 4, MAX}) {
            c.malformed(values + " values told", Images.storeAttribute(3, values, 1, 2, 3, 4));
        }
        c.malformed("one value", Images.storeAttribute(4, 1, 1, 2, 3, 4));
        c.malformed("three values", Images.storeAttribute(1, 3, 1, 2, 3, 0));
    }

    private static void recordAxis(Check c) {
        SlabImage x = Sample.data();
        c.due("records()", x.records(), 2);
        c.due("the last of B", x.get(1, 1, 2), -32767);
        c.due("none behind it", x.get(1, 2, 2), SlabImage.NOVALUE);
        c.due("the last of D", x.get(3, 1, 0), 'D');
        c.due("none behind it", x.get(3, 2, 0), SlabImage.NOVALUE);
        c.due("one more by B", x.put(1, 2, 0, 1), 0);
        c.due("D has it too", x.get(3, 2, 0), 0);
        c.due("none behind it", x.get(3, 3, 0), SlabImage.NOVALUE);
    }

    private static void noRecordVariable(Check c) {
        SlabImage x = new SlabImage();
        c.due("a new object", x.records(), 0);
        x.dimension('t', 0);
        x.variable('A', 1, -1, -1);
        c.due("DEFINING", x.records(), 0);
        x.seal();
        x.put(0, 0, 0, 1);
        c.due("a growing dimension that no variable has", x.records(), 0);
        c.due("in the image", x.eight(0), 0x4752440100000000L);
        int[] none = {};
        c.opens("no records", Images.oneVariable(0, new int[] {0}, none, 1, 4, 1, 0, 0, 0));
        for (int records : new int[] {MIN, -1, 1, 2, MAX}) {
            c.malformed(records + " records, no variable over t",
                    Images.oneVariable(records, new int[] {0}, none, 1, 4, 1, 0, 0, 0));
            c.malformed(records + " records, no growing dimension",
                    Images.oneVariable(records, new int[] {1}, new int[] {0}, 1, 4, 1, 0, 0, 0));
            c.malformed(records + " records, nothing", new Bytes().start(records).words(0, 0, 0, 0, 0, 0).all());
        }
    }

    private static void cells(Check c) {
        for (int rows = 1; rows <= 8; rows++) {
            for (int columns = 1; columns <= 8; columns++) {
                SlabImage x = new SlabImage();
                x.dimension('a', rows);
                x.dimension('b', columns);
                x.variable('A', 2, 0, 1);
                c.due("seal() of " + rows + " x " + columns, x.seal(), 96 + (rows * columns + 3) / 4 * 4);
                c.due("the last cell", x.put(0, rows - 1, columns - 1, 9), 0);
                c.due("the last cell", x.get(0, rows - 1, columns - 1), 9);
                c.due("a row more", x.put(0, rows, 0, 1), SlabImage.OUTSIDE);
                c.due("a row more", x.get(0, rows, 0), SlabImage.NOVALUE);
                c.due("a column more", x.put(0, 0, columns, 1), SlabImage.OUTSIDE);
                c.due("a column more", x.get(0, 0, columns), SlabImage.NOVALUE);
                c.due("a row less", x.get(0, -1, 0), SlabImage.NOVALUE);
                c.due("a column less", x.get(0, 0, -1), SlabImage.NOVALUE);
                c.due("nothing was put elsewhere", x.get(0, 0, 0), rows * columns == 1 ? 9 : 0);
            }
        }
    }

    private static void absentAxes(Check c) {
        for (int number : new int[] {MIN, -1, 1, 2, 7, MAX}) {
            c.refused("C has no i " + number, Sample::data, x -> x.put(2, number, 0, 5), SlabImage.OUTSIDE);
            c.refused("C has no j " + number, Sample::data, x -> x.put(2, 0, number, 5), SlabImage.OUTSIDE);
            c.refused("D has no j " + number, Sample::data, x -> x.put(3, 0, number, 5), SlabImage.OUTSIDE);
            c.due("C has no i " + number, Sample.data().get(2, number, 0), SlabImage.NOVALUE);
            c.due("C has no j " + number, Sample.data().get(2, 0, number), SlabImage.NOVALUE);
            c.due("D has no j " + number, Sample.data().get(3, 0, number), SlabImage.NOVALUE);
        }
        SlabImage x = Sample.data();
        c.due("C at 0, 0", x.put(2, 0, 0, 5), 0);
        c.due("C at 0, 0", x.get(2, 0, 0), 5);
        c.due("D at 1, 0", x.put(3, 1, 0, 6), 0);
        c.due("D at 1, 0", x.get(3, 1, 0), 6);
    }
}
