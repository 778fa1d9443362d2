/** Whole images written by hand, right ones and such as tell of no store. */
final class Images {
    private Images() {
    }

    static int[] empty() {
        return new Bytes().start(0).words(0, 0, 0, 0, 0, 0).all();
    }

    /** Dimensions alone, each a name and a length. */
    static int[] dimensions(int... namesAndLengths) {
        Bytes row = new Bytes().start(0).words(10, namesAndLengths.length / 2);
        for (int k = 0; k + 1 < namesAndLengths.length; k += 2) {
            row.name(namesAndLengths[k]).words(namesAndLengths[k + 1]);
        }
        return row.words(0, 0, 0, 0).all();
    }

    /** One list of attributes of SHORTs; told is the number that it says it has. */
    private static void attributeList(Bytes row, int told, String names) {
        row.words(told == 0 ? 0 : 12, told);
        for (char name : names.toCharArray()) {
            row.name(name).words(3, 2, 65536 * 7 + 8);
        }
    }

    static int[] storeAttributes(int told, String names) {
        Bytes row = new Bytes().start(0).words(0, 0);
        attributeList(row, told, names);
        return row.words(0, 0).all();
    }

    /** A variable with one INT, and with attributes. */
    static int[] variableAttributes(int told, String names) {
        Bytes row = new Bytes().start(0).words(0, 0, 0, 0, 11, 1).name('A').words(0);
        attributeList(row, told, names);
        return row.words(4, 4, 64 + 20 * names.length(), 99).all();
    }

    /** One attribute of the store with this type, number of values and bytes of values. */
    static int[] storeAttribute(int type, int values, int... bytes) {
        return new Bytes().start(0).words(0, 0, 12, 1).name('a').words(type, values).bytes(bytes).words(0, 0).all();
    }

    /** Variables without axes, each with one INT. */
    static int[] scalars(String names) {
        Bytes row = new Bytes().start(0).words(0, 0, 0, 0, 11, names.length());
        int data = 32 + 32 * names.length();
        for (int k = 0; k < names.length(); k++) {
            row.name(names.charAt(k)).words(0, 0, 0, 4, 4, data + 4 * k);
        }
        for (int k = 0; k < names.length(); k++) {
            row.words(k);
        }
        return row.all();
    }

    /** One variable; the dimensions are a, b, .. with these lengths, and the axes are told as often as they stand here. */
    static int[] oneVariable(int records, int[] lengths, int[] axes, int type, int paddedSize, int... cells) {
        Bytes row = new Bytes().start(records).words(lengths.length == 0 ? 0 : 10, lengths.length);
        for (int k = 0; k < lengths.length; k++) {
            row.name('a' + k).words(lengths[k]);
        }
        row.words(0, 0, 11, 1).name('A').words(axes.length).words(axes);
        row.words(0, 0).words(type, paddedSize, 64 + 12 * lengths.length + 4 * axes.length);
        return row.bytes(cells).all();
    }

    /** A BYTE variable over the growing dimension t and, when it has two axes, another one of length 3. */
    static int[] oneGrowing(int records, int axes, int a, int b, int cells) {
        Bytes row = new Bytes().start(records).words(10, 2).name('t').words(0).name('a').words(3)
                .words(0, 0, 11, 1).name('A').words(axes);
        if (axes > 0) {
            row.words(a);
        }
        if (axes > 1) {
            row.words(b);
        }
        row.words(0, 0, 1, 4, 84 + 4 * axes + 4);
        for (int k = 0; k < cells; k++) {
            row.bytes(k + 1);
        }
        return row.all();
    }

    /** The row with one byte changed. */
    static int[] with(int[] row, int place, int b) {
        int[] changed = row.clone();
        changed[place] = b;
        return changed;
    }
}
