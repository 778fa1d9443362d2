import java.util.ArrayList;
import java.util.List;

/** Bytes of an image, written by hand. */
final class Bytes {
    private final List<Integer> list = new ArrayList<>();

    Bytes bytes(int... values) {
        for (int b : values) {
            list.add(b & 255);
        }
        return this;
    }

    Bytes words(int... values) {
        for (int w : values) {
            bytes(w >> 24, w >> 16, w >> 8, w);
        }
        return this;
    }

    Bytes name(int name) {
        return words(1).bytes(name, 0, 0, 0);
    }

    Bytes attribute(int name, int type, int x, int y) {
        name(name).words(type, 2);
        return switch (type) {
            case 3 -> bytes(x >> 8, x, y >> 8, y);
            case 4 -> words(x, y);
            default -> bytes(x, y, 0, 0);
        };
    }

    Bytes start(int records) {
        return bytes(71, 82, 68, 1).words(records);
    }

    int[] all() {
        int[] row = new int[list.size()];
        for (int k = 0; k < row.length; k++) {
            row[k] = list.get(k);
        }
        return row;
    }

    /** Makes the bytes the draft of an object. */
    static void load(SlabImage x, int[] row) {
        x.erase();
        for (int k = 0; k < row.length; k += 8) {
            int n = Math.min(8, row.length - k);
            long eight = 0;
            for (int m = 0; m < 8; m++) {
                eight = eight << 8 | (m < n ? row[k + m] & 255 : 0x5A);
            }
            x.add(eight, n);
        }
    }

    static int open(SlabImage x, int[] row) {
        load(x, row);
        return x.open();
    }
}
