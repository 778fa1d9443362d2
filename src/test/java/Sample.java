/** Objects that refused calls are tried on: each has something of everything that such a call could change. */
final class Sample {
    private Sample() {
    }

    /** Dimensions a (3), t (growing), b (2); variables A BYTE (a, b), B SHORT (t, a), C INT (), D TEXT (t). */
    private static SlabImage defined() {
        SlabImage x = new SlabImage();
        x.dimension('a', 3);
        x.dimension('t', 0);
        x.dimension('b', 2);
        x.variable('A', 1, 0, 2);
        x.variable('B', 3, 1, 0);
        x.variable('C', 4, -1, -1);
        x.variable('D', 2, 1, -1);
        x.attribute(-1, 'p', 1, 1, 2);
        x.attribute(-1, 'q', 3, 3, 4);
        x.attribute(1, 'p', 4, 5, 6);
        return x;
    }

    /** In DATA, with two records, some values, selections and a draft. */
    static SlabImage data() {
        SlabImage x = defined();
        x.seal();
        x.select(0, 0, 2, 1);
        x.select(1, 0, 2, 1);
        x.putSlab(0, 10, 1);
        x.putSlab(1, 300, 1);
        x.put(2, 0, 0, 70000);
        x.put(3, 1, 0, 'D');
        return withDraft(x, new Bytes().start(0).words(0, 0).words(12, 1)
                .name('k').words(1, 2).bytes(8, 9, 0, 0).words(0, 0).all());
    }

    /** The same in DEFINING. */
    static SlabImage defining() {
        SlabImage x = data();
        x.redefine();
        return x;
    }

    /** As many dimensions, variables and attributes as there may be, DEFINING; the growing dimension is number 1. */
    static SlabImage crowded() {
        SlabImage x = defining();
        x.dimension('c', 1);
        x.variable('E', 1, 3, 3);
        x.attribute(-1, 'r', 2, 7, 8);
        x.attribute(1, 'q', 1, 1, 1);
        x.attribute(1, 'r', 1, 2, 2);
        return x;
    }

    static SlabImage withSelections(SlabImage x, int[] rows, int[] columns) {
        x.select(0, rows[0], rows[1], rows[2]);
        x.select(1, columns[0], columns[1], columns[2]);
        return x;
    }

    static SlabImage withDraft(SlabImage x, int[] row) {
        Bytes.load(x, row);
        return x;
    }
}
