import java.util.Arrays;

/** A store of arrays of numbers, kept as one image of at most 800 bytes. */
public final class SlabImage {
    public static final int MODE = -1;
    public static final int BAD = -2;
    public static final int NOTHING = -3;
    public static final int TAKEN = -4;
    public static final int FULL = -5;
    public static final int RANGE = -6;
    public static final int OUTSIDE = -7;
    public static final int TOOBIG = -8;
    public static final int MALFORMED = -9;
    public static final long NOVALUE = 1099511627776L;

    private static final int MOST_BYTES = 800;
    private static final int MOST_DIMENSIONS = 4;
    private static final int MOST_VARIABLES = 5;
    private static final int MOST_ATTRIBUTES = 3;
    private static final int MOST_AXES = 2;
    private static final int LONGEST = 8;
    private static final int LOWEST_NAME = 33;
    private static final int HIGHEST_NAME = 126;
    private static final int NO_AXIS = -1;
    private static final int STORE_ITSELF = -1;

    private static final int WORD_BYTES = 4;
    private static final int NAME_BYTES = 8;
    private static final int LIST_HEAD_BYTES = 8;
    private static final int VALUES_OF_ATTRIBUTE = 2;
    private static final int SIGNATURE = 0x47524401;
    private static final int KIND_DIMENSIONS = 10;
    private static final int KIND_VARIABLES = 11;
    private static final int KIND_ATTRIBUTES = 12;

    private static final int BYTE = 1;
    private static final int SHORT = 3;
    private static final int INT = 4;
    /* What each type has, at the place of its number; no type has the number 0. */
    private static final int[] WIDTH = {0, 1, 1, 2, 4};
    private static final int[] FILL = {0, -127, 0, -32767, -2147483647};
    private static final int[] LEAST = {0, -128, 0, -32768, -2147483648};
    private static final int[] GREATEST = {0, 127, 255, 32767, 2147483647};

    private Store store;
    private Store spare;
    private boolean defining;
    private final Selection rowSelection;
    private final Selection columnSelection;
    private final Selection zeroAlone;
    private final ByteRow draft;
    private final ByteRow image;

    public SlabImage() {
        store = new Store();
        spare = new Store();
        defining = true;
        rowSelection = new Selection();
        columnSelection = new Selection();
        zeroAlone = new Selection();
        draft = new ByteRow();
        image = new ByteRow();
    }

    public int dimension(int name, int length) {
        return defining ? store.defineDimension(name, length) : MODE;
    }

    public int variable(int name, int type, int a, int b) {
        return defining ? store.defineVariable(name, type, a, b) : MODE;
    }

    public int attribute(int v, int name, int type, int x, int y) {
        if (!defining) {
            return MODE;
        }
        AttributeList list = store.attributesOf(v);
        return list == null ? NOTHING : list.assign(name, type, x, y);
    }

    public int drop(int v, int name) {
        if (!defining) {
            return MODE;
        }
        AttributeList list = store.attributesOf(v);
        return list == null ? NOTHING : list.takeOff(name);
    }

    public int rename(boolean variable, int k, int name) {
        if (!defining) {
            return MODE;
        }
        return variable ? store.renameVariable(k, name) : store.renameDimension(k, name);
    }

    public int seal() {
        if (!defining) {
            return MODE;
        }
        long length = store.imageBytes(store.recordCount);
        if (length > MOST_BYTES) {
            return TOOBIG;
        }
        defining = false;
        return (int) length;
    }

    public int redefine() {
        if (defining) {
            return MODE;
        }
        defining = true;
        return 0;
    }

    public int put(int v, int i, int j, int x) {
        if (defining) {
            return MODE;
        }
        Variable variable = store.variableAt(v);
        if (variable == null) {
            return NOTHING;
        }
        if (!variable.admits(i, j)) {
            return OUTSIDE;
        }
        if (!isValue(variable.type, x)) {
            return RANGE;
        }
        if (!store.growToHold(variable, i)) {
            return TOOBIG;
        }
        variable.setCell(i, j, x);
        return 0;
    }

    public long get(int v, int i, int j) {
        if (defining) {
            return NOVALUE;
        }
        Variable variable = store.variableAt(v);
        if (variable == null || !store.holds(variable, i, j)) {
            return NOVALUE;
        }
        return variable.cell(i, j);
    }

    public int select(int axis, int start, int count, int stride) {
        if (axis != 0 && axis != 1) {
            return NOTHING;
        }
        if (start < 0 || count < 1 || count > LONGEST || stride < 1 || stride > LONGEST) {
            return BAD;
        }
        Selection selection = axis == 0 ? rowSelection : columnSelection;
        selection.become(start, count, stride);
        return 0;
    }

    public int putSlab(int v, int x, int step) {
        if (defining) {
            return MODE;
        }
        Variable variable = store.variableAt(v);
        if (variable == null) {
            return NOTHING;
        }
        Selection rows = rowsOf(variable);
        Selection columns = columnsOf(variable);
        if (!variable.admits(rows.last(), columns.last())) {
            return OUTSIDE;
        }
        int cells = rows.count * columns.count;
        if (!areValues(variable.type, cells, x, step)) {
            return RANGE;
        }
        if (!store.growToHold(variable, rows.last())) {
            return TOOBIG;
        }
        variable.setSlab(rows, columns, x, step);
        return cells;
    }

    public long getSlab(int v, int n) {
        if (defining) {
            return NOVALUE;
        }
        Variable variable = store.variableAt(v);
        if (variable == null) {
            return NOVALUE;
        }
        Selection rows = rowsOf(variable);
        Selection columns = columnsOf(variable);
        if (!store.holds(variable, rows.last(), columns.last())) {
            return NOVALUE;
        }
        if (n < 0 || n >= rows.count * columns.count) {
            return NOVALUE;
        }
        return variable.cell(rows.at(n / columns.count), columns.at(n % columns.count));
    }

    public int records() {
        return store.recordCount;
    }

    public int size() {
        return defining ? MODE : (int) store.imageBytes(store.recordCount);
    }

    public int begin(int v) {
        if (defining) {
            return MODE;
        }
        return store.variableAt(v) == null ? NOTHING : store.beginOf(v);
    }

    public long eight(int k) {
        if (defining || k < 0 || k >= MOST_BYTES / 8) {
            return 0;
        }
        store.writeTo(image);
        long bytes = 0;
        for (int n = 0; n < 8; n++) {
            bytes = bytes << 8 | image.at(8 * k + n);
        }
        return bytes;
    }

    public boolean add(long bytes, int n) {
        if (n < 1 || n > 8 || draft.length + n > MOST_BYTES) {
            return false;
        }
        for (int k = 0; k < n; k++) {
            draft.append((int) (bytes >>> (56 - 8 * k)));
        }
        return true;
    }

    public void erase() {
        draft.clear();
    }

    public int open() {
        spare.clear();
        if (!spare.readFrom(draft)) {
            return MALFORMED;
        }
        // Reading passes over kinds, sizes, begins and bytes 0: writing anew shows whether they are right.
        spare.writeTo(image);
        if (!image.matches(draft)) {
            return MALFORMED;
        }
        Store replaced = store;
        store = spare;
        spare = replaced;
        defining = false;
        return draft.length;
    }

    private Selection rowsOf(Variable variable) {
        return variable.axisCount() > 0 ? rowSelection : zeroAlone;
    }

    private Selection columnsOf(Variable variable) {
        return variable.axisCount() > 1 ? columnSelection : zeroAlone;
    }

    private static boolean isName(int name) {
        return name >= LOWEST_NAME && name <= HIGHEST_NAME;
    }

    private static boolean isType(int type) {
        return type >= BYTE && type <= INT;
    }

    private static boolean isValue(int type, int x) {
        return x >= LEAST[type] && x <= GREATEST[type];
    }

    private static boolean areValues(int type, int count, int x, int step) {
        for (int n = 0; n < count; n++) {
            if (!isValue(type, x + n * step)) {
                return false;
            }
        }
        return true;
    }

    private static int padded(int bytes) {
        return (bytes + WORD_BYTES - 1) / WORD_BYTES * WORD_BYTES;
    }

    /** The place of a name among the first names of a row, or -1. */
    private static int placeOf(int name, int[] names, int count) {
        for (int k = 0; k < count && k < names.length; k++) {
            if (names[k] == name) {
                return k;
            }
        }
        return -1;
    }

    /** The numbers of one axis that a slab takes. */
    private static final class Selection {
        int start;
        int count;
        int stride;

        Selection() {
            start = 0;
            count = 1;
            stride = 1;
        }

        void become(int newStart, int newCount, int newStride) {
            start = newStart;
            count = newCount;
            stride = newStride;
        }

        /** A long, since a selection may reach beyond the ints. */
        long last() {
            return start + (count - 1L) * stride;
        }

        int at(int n) {
            return start + n * stride;
        }
    }

    /** Bytes that are added at the end and taken from the front. */
    private static final class ByteRow {
        final byte[] bytes;
        int length;
        int cursor;

        ByteRow() {
            bytes = new byte[MOST_BYTES];
            length = 0;
            cursor = 0;
        }

        void clear() {
            length = 0;
            cursor = 0;
        }

        void append(int b) {
            if (length < bytes.length) {
                bytes[length] = (byte) b;
                length++;
            }
        }

        void appendNumber(int x, int width) {
            for (int k = width - 1; k >= 0; k--) {
                append(x >> 8 * k);
            }
        }

        void appendWord(int x) {
            appendNumber(x, WORD_BYTES);
        }

        void appendName(int name) {
            appendNumber(1, WORD_BYTES);
            appendNumber(name << 24, WORD_BYTES);
        }

        void appendListHead(int kind, int count) {
            appendNumber(count == 0 ? 0 : kind, WORD_BYTES);
            appendNumber(count, WORD_BYTES);
        }

        /** All that is padded starts at a multiple of 4, so that the length tells what is missing. */
        void appendPadding() {
            int missing = padded(length) - length;
            for (int k = 0; k < missing; k++) {
                append(0);
            }
        }

        int at(int place) {
            return place >= 0 && place < length ? bytes[place] & 255 : 0;
        }

        void rewind() {
            cursor = 0;
        }

        /** Beyond the end bytes 0 are taken; a reader compares the length at last. */
        int takeNumber(int width) {
            int x = 0;
            for (int k = 0; k < width; k++) {
                x = x << 8 | (cursor < length ? bytes[cursor] & 255 : 0);
                cursor++;
            }
            return x;
        }

        int takeWord() {
            return takeNumber(WORD_BYTES);
        }

        int takeName() {
            takeNumber(WORD_BYTES);
            return takeNumber(WORD_BYTES) >>> 24;
        }

        int takeCount() {
            takeNumber(WORD_BYTES);
            return takeNumber(WORD_BYTES);
        }

        int takeValue(int type) {
            int x = takeNumber(WIDTH[type]);
            if (type == BYTE) {
                return (byte) x;
            }
            return type == SHORT ? (short) x : x;
        }

        void takePadding() {
            cursor = padded(cursor);
        }

        boolean matches(ByteRow other) {
            if (length != other.length) {
                return false;
            }
            for (int k = 0; k < length; k++) {
                if (bytes[k] != other.bytes[k]) {
                    return false;
                }
            }
            return true;
        }
    }

    /** The attributes of the store or of one variable. */
    private static final class AttributeList {
        int count;
        final int[] names;
        final int[] types;
        final int[] firsts;
        final int[] seconds;

        AttributeList() {
            count = 0;
            names = new int[MOST_ATTRIBUTES];
            types = new int[MOST_ATTRIBUTES];
            firsts = new int[MOST_ATTRIBUTES];
            seconds = new int[MOST_ATTRIBUTES];
        }

        void clear() {
            count = 0;
        }

        int assign(int name, int type, int x, int y) {
            if (!isName(name) || !isType(type)) {
                return BAD;
            }
            if (!isValue(type, x) || !isValue(type, y)) {
                return RANGE;
            }
            int k = placeOf(name, names, count);
            if (k < 0) {
                if (count >= MOST_ATTRIBUTES) {
                    return FULL;
                }
                k = count;
                count++;
            }
            names[k] = name;
            types[k] = type;
            firsts[k] = x;
            seconds[k] = y;
            return 0;
        }

        int takeOff(int name) {
            int place = placeOf(name, names, count);
            if (place < 0) {
                return NOTHING;
            }
            for (int k = place + 1; k < count; k++) {
                names[k - 1] = names[k];
                types[k - 1] = types[k];
                firsts[k - 1] = firsts[k];
                seconds[k - 1] = seconds[k];
            }
            count--;
            return 0;
        }

        int headerBytes() {
            int bytes = LIST_HEAD_BYTES;
            for (int k = 0; k < count; k++) {
                bytes += NAME_BYTES + 2 * WORD_BYTES + padded(VALUES_OF_ATTRIBUTE * WIDTH[types[k]]);
            }
            return bytes;
        }

        void writeTo(ByteRow row) {
            row.appendListHead(KIND_ATTRIBUTES, count);
            for (int k = 0; k < count; k++) {
                row.appendName(names[k]);
                row.appendWord(types[k]);
                row.appendWord(VALUES_OF_ATTRIBUTE);
                row.appendNumber(firsts[k], WIDTH[types[k]]);
                row.appendNumber(seconds[k], WIDTH[types[k]]);
                row.appendPadding();
            }
        }

        /** A name that comes twice leaves the list shorter than told, which writing it anew shows. */
        boolean readFrom(ByteRow row) {
            int told = row.takeCount();
            if (told < 0 || told > MOST_ATTRIBUTES) {
                return false;
            }
            for (int k = 0; k < told; k++) {
                int name = row.takeName();
                int type = row.takeWord();
                row.takeWord();
                if (!isType(type)) {
                    return false;
                }
                int x = row.takeValue(type);
                int y = row.takeValue(type);
                row.takePadding();
                if (assign(name, type, x, y) < 0) {
                    return false;
                }
            }
            return true;
        }
    }

    /** One array; the place of an axis that it has not counts as an axis of length 1. */
    private static final class Variable {
        int type;
        int firstAxis;
        int secondAxis;
        boolean growing;
        int rowCount;
        int columnCount;
        final AttributeList attributes;
        /* A cell has at least one byte, so that an image has no more cells than bytes. */
        final int[] cells;

        Variable() {
            type = BYTE;
            firstAxis = NO_AXIS;
            secondAxis = NO_AXIS;
            growing = false;
            rowCount = 1;
            columnCount = 1;
            attributes = new AttributeList();
            cells = new int[MOST_BYTES];
        }

        void shape(int a, int rows, int b, int columns) {
            firstAxis = a;
            secondAxis = b;
            growing = rows == 0;
            rowCount = rows;
            columnCount = columns;
        }

        /** Fills cells of records to come too, so that growing by records need not write them. */
        void fill(int newType) {
            type = newType;
            Arrays.fill(cells, FILL[newType]);
        }

        int axisCount() {
            if (firstAxis == NO_AXIS) {
                return 0;
            }
            return secondAxis == NO_AXIS ? 1 : 2;
        }

        /** Whether the cell exists or, in a variable that grows, may come to exist. */
        boolean admits(long i, long j) {
            return i >= 0 && (growing || i < rowCount) && j >= 0 && j < columnCount;
        }

        int cell(int i, int j) {
            int place = i * columnCount + j;
            return place >= 0 && place < cells.length ? cells[place] : FILL[type];
        }

        void setCell(int i, int j, int x) {
            int place = i * columnCount + j;
            if (place >= 0 && place < cells.length) {
                cells[place] = x;
            }
        }

        void setSlab(Selection rows, Selection columns, int x, int step) {
            int value = x;
            for (int r = 0; r < rows.count; r++) {
                for (int c = 0; c < columns.count; c++) {
                    setCell(rows.at(r), columns.at(c), value);
                    value += step;
                }
            }
        }

        int bytesOfRow() {
            return columnCount * WIDTH[type];
        }

        int paddedSize() {
            return padded(growing ? bytesOfRow() : rowCount * bytesOfRow());
        }

        int headerBytes() {
            return NAME_BYTES + WORD_BYTES + axisCount() * WORD_BYTES + attributes.headerBytes() + 3 * WORD_BYTES;
        }

        void writeRow(ByteRow row, int i) {
            for (int j = 0; j < columnCount; j++) {
                row.appendNumber(cell(i, j), WIDTH[type]);
            }
        }

        void readRow(ByteRow row, int i) {
            for (int j = 0; j < columnCount; j++) {
                setCell(i, j, row.takeValue(type));
            }
        }
    }

    /** The definitions with their cells, and how they lie in an image. */
    private static final class Store {
        int recordCount;
        int dimensionCount;
        final int[] dimensionNames;
        final int[] dimensionLengths;
        int variableCount;
        final int[] variableNames;
        final Variable[] variables;
        final AttributeList attributes;

        Store() {
            recordCount = 0;
            dimensionCount = 0;
            dimensionNames = new int[MOST_DIMENSIONS];
            dimensionLengths = new int[MOST_DIMENSIONS];
            variableCount = 0;
            variableNames = new int[MOST_VARIABLES];
            variables = new Variable[MOST_VARIABLES];
            for (int k = 0; k < MOST_VARIABLES; k++) {
                variables[k] = new Variable();
            }
            attributes = new AttributeList();
        }

        void clear() {
            recordCount = 0;
            dimensionCount = 0;
            variableCount = 0;
            attributes.clear();
            for (int k = 0; k < MOST_VARIABLES; k++) {
                variables[k].attributes.clear();
            }
        }

        int defineDimension(int name, int length) {
            if (!isName(name) || length < 0 || length > LONGEST) {
                return BAD;
            }
            if (placeOf(name, dimensionNames, dimensionCount) >= 0) {
                return TAKEN;
            }
            if (dimensionCount >= MOST_DIMENSIONS || length == 0 && hasGrowingDimension()) {
                return FULL;
            }
            dimensionNames[dimensionCount] = name;
            dimensionLengths[dimensionCount] = length;
            dimensionCount++;
            return dimensionCount - 1;
        }

        boolean hasGrowingDimension() {
            for (int k = 0; k < dimensionCount; k++) {
                if (dimensionLengths[k] == 0) {
                    return true;
                }
            }
            return false;
        }

        int defineVariable(int name, int type, int a, int b) {
            if (!isName(name) || !isType(type)) {
                return BAD;
            }
            if (!mayBeAxis(a) || !mayBeAxis(b) || a == NO_AXIS && b != NO_AXIS) {
                return NOTHING;
            }
            if (lengthOf(b) == 0) {
                return BAD;
            }
            if (placeOf(name, variableNames, variableCount) >= 0) {
                return TAKEN;
            }
            if (variableCount >= MOST_VARIABLES) {
                return FULL;
            }
            variableNames[variableCount] = name;
            variables[variableCount].shape(a, lengthOf(a), b, lengthOf(b));
            variables[variableCount].fill(type);
            variableCount++;
            return variableCount - 1;
        }

        boolean isDimension(int k) {
            return k >= 0 && k < dimensionCount;
        }

        boolean mayBeAxis(int a) {
            return a == NO_AXIS || isDimension(a);
        }

        int lengthOf(int a) {
            return isDimension(a) ? dimensionLengths[a] : 1;
        }

        Variable variableAt(int v) {
            return v >= 0 && v < variableCount ? variables[v] : null;
        }

        AttributeList attributesOf(int v) {
            if (v == STORE_ITSELF) {
                return attributes;
            }
            Variable variable = variableAt(v);
            return variable == null ? null : variable.attributes;
        }

        int renameDimension(int k, int name) {
            return changeName(dimensionNames, dimensionCount, k, name);
        }

        int renameVariable(int k, int name) {
            return changeName(variableNames, variableCount, k, name);
        }

        static int changeName(int[] names, int count, int k, int name) {
            if (k < 0 || k >= count) {
                return NOTHING;
            }
            if (!isName(name)) {
                return BAD;
            }
            int holder = placeOf(name, names, count);
            if (holder >= 0 && holder != k) {
                return TAKEN;
            }
            names[k] = name;
            return 0;
        }

        boolean holds(Variable variable, long i, long j) {
            return variable.admits(i, j) && (!variable.growing || i < recordCount);
        }

        /** False, with nothing changed, when the image has no room for record i. */
        boolean growToHold(Variable variable, long i) {
            if (!variable.growing || i < recordCount) {
                return true;
            }
            if (imageBytes(i + 1) > MOST_BYTES) {
                return false;
            }
            recordCount = (int) (i + 1);
            return true;
        }

        int recordVariables() {
            int count = 0;
            for (int v = 0; v < variableCount; v++) {
                if (variables[v].growing) {
                    count++;
                }
            }
            return count;
        }

        int headerBytes() {
            int bytes = 2 * WORD_BYTES + 2 * LIST_HEAD_BYTES + attributes.headerBytes();
            bytes += dimensionCount * (NAME_BYTES + WORD_BYTES);
            for (int v = 0; v < variableCount; v++) {
                bytes += variables[v].headerBytes();
            }
            return bytes;
        }

        /** The padded sizes of the first variables that are record variables, or of those that are not. */
        int paddedBytes(int count, boolean growing) {
            int bytes = 0;
            for (int v = 0; v < count && v < variableCount; v++) {
                if (variables[v].growing == growing) {
                    bytes += variables[v].paddedSize();
                }
            }
            return bytes;
        }

        int recordBytes() {
            if (recordVariables() != 1) {
                return paddedBytes(variableCount, true);
            }
            int bytes = 0;
            for (int v = 0; v < variableCount; v++) {
                if (variables[v].growing) {
                    bytes = variables[v].bytesOfRow();
                }
            }
            return bytes;
        }

        long imageBytes(long records) {
            return headerBytes() + paddedBytes(variableCount, false) + records * recordBytes();
        }

        int beginOf(int v) {
            if (!variables[v].growing) {
                return headerBytes() + paddedBytes(v, false);
            }
            return headerBytes() + paddedBytes(variableCount, false) + paddedBytes(v, true);
        }

        void writeTo(ByteRow row) {
            row.clear();
            row.appendWord(SIGNATURE);
            row.appendWord(recordCount);
            row.appendListHead(KIND_DIMENSIONS, dimensionCount);
            for (int k = 0; k < dimensionCount; k++) {
                row.appendName(dimensionNames[k]);
                row.appendWord(dimensionLengths[k]);
            }
            attributes.writeTo(row);
            row.appendListHead(KIND_VARIABLES, variableCount);
            for (int v = 0; v < variableCount; v++) {
                writeVariable(row, v, beginOf(v));
            }
            writeCells(row);
        }

        void writeVariable(ByteRow row, int v, int begin) {
            Variable variable = variables[v];
            row.appendName(variableNames[v]);
            row.appendWord(variable.axisCount());
            if (variable.axisCount() > 0) {
                row.appendWord(variable.firstAxis);
            }
            if (variable.axisCount() > 1) {
                row.appendWord(variable.secondAxis);
            }
            variable.attributes.writeTo(row);
            row.appendWord(variable.type);
            row.appendWord(variable.paddedSize());
            row.appendWord(begin);
        }

        void writeCells(ByteRow row) {
            for (int v = 0; v < variableCount; v++) {
                if (!variables[v].growing) {
                    for (int i = 0; i < variables[v].rowCount; i++) {
                        variables[v].writeRow(row, i);
                    }
                    row.appendPadding();
                }
            }
            boolean padding = recordVariables() > 1;
            for (int i = 0; i < recordCount; i++) {
                writeRecord(row, i, padding);
            }
        }

        void writeRecord(ByteRow row, int i, boolean padding) {
            for (int v = 0; v < variableCount; v++) {
                if (variables[v].growing) {
                    variables[v].writeRow(row, i);
                    if (padding) {
                        row.appendPadding();
                    }
                }
            }
        }

        /** Takes what the bytes tell into this cleared store; false when no store can be so. */
        boolean readFrom(ByteRow row) {
            row.rewind();
            row.takeWord();
            int records = row.takeWord();
            if (!readDimensions(row) || !attributes.readFrom(row) || !readVariables(row)) {
                return false;
            }
            if (records < 0 || records > 0 && recordVariables() == 0) {
                return false;
            }
            // The length bounds the number of records before cells are read by it.
            if (imageBytes(records) != row.length) {
                return false;
            }
            recordCount = records;
            readCells(row);
            return true;
        }

        boolean readDimensions(ByteRow row) {
            int told = row.takeCount();
            if (told < 0 || told > MOST_DIMENSIONS) {
                return false;
            }
            for (int k = 0; k < told; k++) {
                int name = row.takeName();
                int length = row.takeWord();
                if (defineDimension(name, length) < 0) {
                    return false;
                }
            }
            return true;
        }

        boolean readVariables(ByteRow row) {
            int told = row.takeCount();
            if (told < 0 || told > MOST_VARIABLES) {
                return false;
            }
            for (int v = 0; v < told; v++) {
                if (!readVariable(row, variables[v].attributes)) {
                    return false;
                }
            }
            return true;
        }

        boolean readVariable(ByteRow row, AttributeList list) {
            int name = row.takeName();
            int axes = row.takeWord();
            if (axes < 0 || axes > MOST_AXES) {
                return false;
            }
            int a = axes > 0 ? row.takeWord() : NO_AXIS;
            int b = axes > 1 ? row.takeWord() : NO_AXIS;
            if (!list.readFrom(row)) {
                return false;
            }
            int type = row.takeWord();
            row.takeWord();
            row.takeWord();
            return defineVariable(name, type, a, b) >= 0;
        }

        void readCells(ByteRow row) {
            for (int v = 0; v < variableCount; v++) {
                if (!variables[v].growing) {
                    for (int i = 0; i < variables[v].rowCount; i++) {
                        variables[v].readRow(row, i);
                    }
                    row.takePadding();
                }
            }
            boolean padding = recordVariables() > 1;
            for (int i = 0; i < recordCount; i++) {
                readRecord(row, i, padding);
            }
        }

        void readRecord(ByteRow row, int i, boolean padding) {
            for (int v = 0; v < variableCount; v++) {
                if (variables[v].growing) {
                    variables[v].readRow(row, i);
                    if (padding) {
                        row.takePadding();
                    }
                }
            }
        }
    }
}
