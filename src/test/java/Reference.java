import java.io.ByteArrayOutputStream;
import java.util.ArrayList;
import java.util.Arrays;
import java.util.HashMap;
import java.util.HashSet;
import java.util.List;
import java.util.Map;
import java.util.Set;

/** The document once more, in other words: lists and maps, and an image that is read by rules and not by comparing. */
final class Reference {
    private static final long NOVALUE = 1L << 40;
    private static final int[] WIDTH = {0, 1, 1, 2, 4};
    private static final int[] FILL = {0, -127, 0, -32767, -2147483647};

    private static final class Malformed extends RuntimeException {
        private static final long serialVersionUID = 1L;
    }

    private record Attribute(int name, int type, int x, int y) { }

    private static final class Dim {
        int name;
        int length;
    }

    private static final class Var {
        int name;
        int type;
        final List<Integer> axes = new ArrayList<>();
        final List<Attribute> attributes = new ArrayList<>();
        final Map<List<Long>, Integer> cells = new HashMap<>();
    }

    private static final class Data {
        final List<Dim> dims = new ArrayList<>();
        final List<Var> vars = new ArrayList<>();
        final List<Attribute> attributes = new ArrayList<>();
        int records = 0;
    }

    private Data data = new Data();
    private boolean defining = true;
    private final long[][] selections = {{0, 1, 1}, {0, 1, 1}};
    private final List<Integer> draft = new ArrayList<>();

    private static boolean badName(int name) {
        return name < 33 || name > 126;
    }

    private static boolean badType(int type) {
        return type < 1 || type > 4;
    }

    private static boolean fits(int type, int x) {
        return switch (type) {
            case 1 -> x == (byte) x;
            case 2 -> x == (x & 255);
            case 3 -> x == (short) x;
            default -> true;
        };
    }

    int dimension(int name, int length) {
        if (!defining) return -1;
        if (badName(name) || length < 0 || length > 8) return -2;
        if (data.dims.stream().anyMatch(d -> d.name == name)) return -4;
        if (data.dims.size() == 4 || length == 0 && data.dims.stream().anyMatch(d -> d.length == 0)) return -5;
        Dim d = new Dim();
        d.name = name;
        d.length = length;
        data.dims.add(d);
        return data.dims.size() - 1;
    }

    int variable(int name, int type, int a, int b) {
        if (!defining) return -1;
        if (badName(name) || badType(type)) return -2;
        int n = data.dims.size();
        if (a < -1 || a >= n || b < -1 || b >= n || a == -1 && b != -1) return -3;
        if (b != -1 && data.dims.get(b).length == 0) return -2;
        if (data.vars.stream().anyMatch(v -> v.name == name)) return -4;
        if (data.vars.size() == 5) return -5;
        Var v = new Var();
        v.name = name;
        v.type = type;
        if (a != -1) v.axes.add(a);
        if (b != -1) v.axes.add(b);
        data.vars.add(v);
        return data.vars.size() - 1;
    }

    private List<Attribute> list(int v) {
        if (v == -1) return data.attributes;
        return v >= 0 && v < data.vars.size() ? data.vars.get(v).attributes : null;
    }

    int attribute(int v, int name, int type, int x, int y) {
        if (!defining) return -1;
        List<Attribute> list = list(v);
        if (list == null) return -3;
        if (badName(name) || badType(type)) return -2;
        if (!fits(type, x) || !fits(type, y)) return -6;
        Attribute made = new Attribute(name, type, x, y);
        for (int k = 0; k < list.size(); k++) {
            if (list.get(k).name() == name) {
                list.set(k, made);
                return 0;
            }
        }
        if (list.size() == 3) return -5;
        list.add(made);
        return 0;
    }

    int drop(int v, int name) {
        if (!defining) return -1;
        List<Attribute> list = list(v);
        if (list == null) return -3;
        return list.removeIf(a -> a.name() == name) ? 0 : -3;
    }

    int rename(boolean variable, int k, int name) {
        if (!defining) return -1;
        int n = variable ? data.vars.size() : data.dims.size();
        if (k < 0 || k >= n) return -3;
        if (badName(name)) return -2;
        for (int m = 0; m < n; m++) {
            int held = variable ? data.vars.get(m).name : data.dims.get(m).name;
            if (m != k && held == name) return -4;
        }
        if (variable) {
            data.vars.get(k).name = name;
        } else {
            data.dims.get(k).name = name;
        }
        return 0;
    }

    int seal() {
        if (!defining) return -1;
        if (image(data, data.records).length > 800) return -8;
        defining = false;
        return image(data, data.records).length;
    }

    int redefine() {
        if (defining) return -1;
        defining = true;
        return 0;
    }

    private static boolean grows(Data data, Var v) {
        return !v.axes.isEmpty() && data.dims.get(v.axes.get(0)).length == 0;
    }

    private static long length(Data data, Var v, int axis) {
        if (axis >= v.axes.size()) return 1;
        long length = data.dims.get(v.axes.get(axis)).length;
        return length == 0 ? data.records : length;
    }

    private Var var(int v) {
        return v >= 0 && v < data.vars.size() ? data.vars.get(v) : null;
    }

    private boolean tooMany(long records) {
        // Beyond 800 records there are more than 800 bytes anyhow, and the image need not be made.
        return records > 800 || image(data, (int) records).length > 800;
    }

    private int write(Var v, List<List<Long>> cells, int x, int step) {
        long need = data.records;
        for (List<Long> cell : cells) {
            long i = cell.get(0);
            long j = cell.get(1);
            if (i < 0 || j < 0 || j >= length(data, v, 1)) return -7;
            if (!grows(data, v) && i >= length(data, v, 0)) return -7;
            if (grows(data, v)) need = Math.max(need, i + 1);
        }
        for (int n = 0; n < cells.size(); n++) {
            if (!fits(v.type, x + n * step)) return -6;
        }
        if (need > data.records && tooMany(need)) return -8;
        data.records = (int) need;
        for (int n = 0; n < cells.size(); n++) {
            v.cells.put(cells.get(n), x + n * step);
        }
        return 0;
    }

    int put(int v, int i, int j, int x) {
        if (defining) return -1;
        if (var(v) == null) return -3;
        return write(var(v), List.of(List.of((long) i, (long) j)), x, 0);
    }

    private boolean exists(Var v, List<Long> cell) {
        long i = cell.get(0);
        long j = cell.get(1);
        return i >= 0 && j >= 0 && i < length(data, v, 0) && j < length(data, v, 1);
    }

    long get(int v, int i, int j) {
        List<Long> cell = List.of((long) i, (long) j);
        if (defining || var(v) == null || !exists(var(v), cell)) return NOVALUE;
        return var(v).cells.getOrDefault(cell, FILL[var(v).type]);
    }

    int select(int axis, int start, int count, int stride) {
        if (axis < 0 || axis > 1) return -3;
        if (start < 0 || count < 1 || count > 8 || stride < 1 || stride > 8) return -2;
        selections[axis] = new long[] {start, count, stride};
        return 0;
    }

    private List<Long> numbers(Var v, int axis) {
        List<Long> numbers = new ArrayList<>();
        if (axis >= v.axes.size()) {
            numbers.add(0L);
            return numbers;
        }
        long[] s = selections[axis];
        for (long n = 0; n < s[1]; n++) {
            numbers.add(s[0] + n * s[2]);
        }
        return numbers;
    }

    private List<List<Long>> slab(Var v) {
        List<List<Long>> cells = new ArrayList<>();
        for (long i : numbers(v, 0)) {
            for (long j : numbers(v, 1)) {
                cells.add(List.of(i, j));
            }
        }
        return cells;
    }

    int putSlab(int v, int x, int step) {
        if (defining) return -1;
        if (var(v) == null) return -3;
        List<List<Long>> cells = slab(var(v));
        int answer = write(var(v), cells, x, step);
        return answer < 0 ? answer : cells.size();
    }

    long getSlab(int v, int n) {
        if (defining || var(v) == null) return NOVALUE;
        List<List<Long>> cells = slab(var(v));
        if (n < 0 || n >= cells.size()) return NOVALUE;
        for (List<Long> cell : cells) {
            if (!exists(var(v), cell)) return NOVALUE;
        }
        return var(v).cells.getOrDefault(cells.get(n), FILL[var(v).type]);
    }

    int records() {
        return data.records;
    }

    int size() {
        return defining ? -1 : image(data, data.records).length;
    }

    int begin(int v) {
        if (defining) return -1;
        return var(v) == null ? -3 : (int) begins(data).get(v).longValue();
    }

    long eight(int k) {
        if (defining || k < 0 || k > 1000) return 0;
        byte[] image = image(data, data.records);
        long eight = 0;
        for (int n = 8 * k; n < 8 * k + 8; n++) {
            eight = eight * 256 + (n < image.length ? image[n] & 255 : 0);
        }
        return eight;
    }

    boolean add(long bytes, int n) {
        if (n < 1 || n > 8 || draft.size() + n > 800) return false;
        for (int k = 0; k < n; k++) {
            draft.add((int) (bytes >> 8 * (7 - k)) & 255);
        }
        return true;
    }

    void erase() {
        draft.clear();
    }

    int[] imageBytes() {
        byte[] image = image(data, data.records);
        int[] row = new int[image.length];
        for (int k = 0; k < row.length; k++) {
            row[k] = image[k] & 255;
        }
        return row;
    }

    boolean isDefining() {
        return defining;
    }

    private static void word(ByteArrayOutputStream out, int w) {
        number(out, w, 4);
    }

    private static void number(ByteArrayOutputStream out, int x, int width) {
        for (int k = width - 1; k >= 0; k--) {
            out.write(x >>> 8 * k);
        }
    }

    private static void name(ByteArrayOutputStream out, int name) {
        word(out, 1);
        out.write(name);
        out.write(0);
        out.write(0);
        out.write(0);
    }

    private static void zeros(ByteArrayOutputStream out, int from) {
        while ((out.size() - from) % 4 != 0) {
            out.write(0);
        }
    }

    private static void attributes(ByteArrayOutputStream out, List<Attribute> list) {
        word(out, list.isEmpty() ? 0 : 12);
        word(out, list.size());
        for (Attribute a : list) {
            name(out, a.name());
            word(out, a.type());
            word(out, 2);
            int from = out.size();
            number(out, a.x(), WIDTH[a.type()]);
            number(out, a.y(), WIDTH[a.type()]);
            zeros(out, from);
        }
    }

    private static byte[] header(Data data, int records, List<Long> begins) {
        ByteArrayOutputStream out = new ByteArrayOutputStream();
        out.writeBytes(new byte[] {71, 82, 68, 1});
        word(out, records);
        word(out, data.dims.isEmpty() ? 0 : 10);
        word(out, data.dims.size());
        for (Dim d : data.dims) {
            name(out, d.name);
            word(out, d.length);
        }
        attributes(out, data.attributes);
        word(out, data.vars.isEmpty() ? 0 : 11);
        word(out, data.vars.size());
        for (int k = 0; k < data.vars.size(); k++) {
            Var v = data.vars.get(k);
            name(out, v.name);
            word(out, v.axes.size());
            v.axes.forEach(a -> word(out, a));
            attributes(out, v.attributes);
            word(out, v.type);
            word(out, padded(data, v));
            word(out, (int) begins.get(k).longValue());
        }
        return out.toByteArray();
    }

    private static int padded(Data data, Var v) {
        long rows = grows(data, v) ? 1 : length(data, v, 0);
        long bytes = rows * length(data, v, 1) * WIDTH[v.type];
        return (int) (bytes + (4 - bytes % 4) % 4);
    }

    private static List<Long> begins(Data data) {
        List<Long> begins = new ArrayList<>();
        data.vars.forEach(v -> begins.add(0L));
        long place = header(data, 0, begins).length;
        for (boolean growing : new boolean[] {false, true}) {
            for (int k = 0; k < data.vars.size(); k++) {
                Var v = data.vars.get(k);
                if (grows(data, v) == growing) {
                    begins.set(k, place);
                    place += padded(data, v);
                }
            }
        }
        return begins;
    }

    private static void cells(ByteArrayOutputStream out, Data data, Var v, long i) {
        for (long j = 0; j < length(data, v, 1); j++) {
            number(out, v.cells.getOrDefault(List.of(i, j), FILL[v.type]), WIDTH[v.type]);
        }
    }

    private static byte[] image(Data data, int records) {
        ByteArrayOutputStream out = new ByteArrayOutputStream();
        out.writeBytes(header(data, records, begins(data)));
        for (Var v : data.vars) {
            if (!grows(data, v)) {
                int from = out.size();
                for (long i = 0; i < length(data, v, 0); i++) {
                    cells(out, data, v, i);
                }
                zeros(out, from);
            }
        }
        long growing = data.vars.stream().filter(v -> grows(data, v)).count();
        for (int i = 0; i < records; i++) {
            for (Var v : data.vars) {
                if (grows(data, v)) {
                    int from = out.size();
                    cells(out, data, v, i);
                    if (growing != 1) zeros(out, from);
                }
            }
        }
        return out.toByteArray();
    }

    int open() {
        try {
            data = new Reading().store();
        } catch (Malformed refused) {
            return -9;
        }
        defining = false;
        return draft.size();
    }

    /** Reads the draft strictly from the front, and refuses the first thing that is wrong. */
    private final class Reading {
        private int place = 0;

        private void must(boolean right) {
            if (!right) throw new Malformed();
        }

        private int next() {
            must(place < draft.size());
            return draft.get(place++);
        }

        private int word() {
            int w = 0;
            for (int k = 0; k < 4; k++) {
                w = w << 8 | next();
            }
            return w;
        }

        private int name(Set<Integer> taken) {
            must(word() == 1);
            int name = next();
            must(!badName(name) && taken.add(name));
            zeros(3);
            return name;
        }

        private void zeros(int n) {
            for (int k = 0; k < n; k++) {
                must(next() == 0);
            }
        }

        private int count(int kind, int most) {
            int told = word();
            int count = word();
            must(count >= 0 && count <= most && told == (count == 0 ? 0 : kind));
            return count;
        }

        private int value(int type) {
            int x = 0;
            for (int k = 0; k < WIDTH[type]; k++) {
                x = x << 8 | next();
            }
            return type == 1 ? (byte) x : type == 3 ? (short) x : x;
        }

        private void attributes(List<Attribute> list) {
            Set<Integer> taken = new HashSet<>();
            int count = count(12, 3);
            for (int k = 0; k < count; k++) {
                int name = name(taken);
                int type = word();
                must(!badType(type));
                must(word() == 2);
                int x = value(type);
                int y = value(type);
                zeros((4 - 2 * WIDTH[type] % 4) % 4);
                list.add(new Attribute(name, type, x, y));
            }
        }

        private Data store() {
            Data made = new Data();
            must(Arrays.equals(new int[] {next(), next(), next(), next()}, new int[] {71, 82, 68, 1}));
            int records = word();
            must(records >= 0);
            dims(made);
            attributes(made.attributes);
            List<int[]> told = vars(made);
            boolean growing = made.vars.stream().anyMatch(v -> grows(made, v));
            must(growing || records == 0);
            for (int k = 0; k < told.size(); k++) {
                must(told.get(k)[0] == padded(made, made.vars.get(k)));
                must(told.get(k)[1] == begins(made).get(k));
            }
            must(records <= 800);
            made.records = records;
            cells(made);
            must(place == draft.size());
            return made;
        }

        private void dims(Data made) {
            Set<Integer> taken = new HashSet<>();
            int count = count(10, 4);
            boolean growing = false;
            for (int k = 0; k < count; k++) {
                Dim d = new Dim();
                d.name = name(taken);
                d.length = word();
                must(d.length >= 0 && d.length <= 8 && !(growing && d.length == 0));
                growing |= d.length == 0;
                made.dims.add(d);
            }
        }

        private List<int[]> vars(Data made) {
            Set<Integer> taken = new HashSet<>();
            List<int[]> told = new ArrayList<>();
            int count = count(11, 5);
            for (int k = 0; k < count; k++) {
                Var v = new Var();
                v.name = name(taken);
                int axes = word();
                must(axes >= 0 && axes <= 2);
                for (int a = 0; a < axes; a++) {
                    int axis = word();
                    must(axis >= 0 && axis < made.dims.size());
                    must(a == 0 || made.dims.get(axis).length != 0);
                    v.axes.add(axis);
                }
                attributes(v.attributes);
                v.type = word();
                must(!badType(v.type));
                told.add(new int[] {word(), word()});
                made.vars.add(v);
            }
            return told;
        }

        private void row(Data made, Var v, long i) {
            for (long j = 0; j < length(made, v, 1); j++) {
                v.cells.put(List.of(i, j), value(v.type));
            }
        }

        private void cells(Data made) {
            for (Var v : made.vars) {
                if (!grows(made, v)) {
                    int from = place;
                    for (long i = 0; i < length(made, v, 0); i++) {
                        row(made, v, i);
                    }
                    zeros((4 - (place - from) % 4) % 4);
                }
            }
            long growing = made.vars.stream().filter(v -> grows(made, v)).count();
            for (int i = 0; i < made.records; i++) {
                for (Var v : made.vars) {
                    if (grows(made, v)) {
                        int from = place;
                        row(made, v, i);
                        if (growing != 1) zeros((4 - (place - from) % 4) % 4);
                    }
                }
            }
        }
    }
}
