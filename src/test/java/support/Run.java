import java.util.List;

/** A new object and the calls made on it: never more than the 512 for which the document promises answers. */
final class Run {
    static final int NONE = SpectrumHeads.NONE;
    /** Just outside 0 .. 255, a byte and 16 bits too far, and the ends of int. */
    static final int[] NO_BYTES = {-1, 256, -256, 257, 65536, Integer.MIN_VALUE, Integer.MAX_VALUE};
    static final int[] NO_CHANNELS = {-1, 8, -8, 256, Integer.MIN_VALUE, Integer.MAX_VALUE};
    static final int[] NO_SIDES = {-1, 16, -16, 256, Integer.MIN_VALUE, Integer.MAX_VALUE};
    /** Rows without an equal cell: the first has the middle cell all over, the others the ends in turn. */
    static final int[] FLAT = {0, 0, 0, 0, 0, 0, 0, 0};
    static final int[] UP_DOWN = {0, 255, 0, 255, 0, 255, 0, 255};
    static final int[] DOWN_UP = {255, 0, 255, 0, 255, 0, 255, 0};
    /** Cells between those of the others: 5 and 3 in turn. */
    static final int[] WAVES = {0, 64, 0, 64, 0, 64, 0, 64};
    /** By kind, the rows that teachAll teaches and pixels shows. */
    static final int[][] ROWS = {FLAT, UP_DOWN, DOWN_UP, WAVES};

    private static final int MOST_CALLS = 512;

    private final int kinds;
    private final SpectrumHeads heads;
    private int calls = 0;

    Run(int kinds) {
        this.kinds = kinds;
        heads = new SpectrumHeads(kinds);
    }

    long make(String name, long... args) {
        return make(new Call(name, args));
    }

    long make(Call call) {
        calls++;
        if (calls > MOST_CALLS) {
            throw new IllegalStateException("a test makes more than 512 calls on one object");
        }
        return call.on(heads);
    }

    void makeAll(List<Call> all) {
        for (Call call : all) {
            make(call);
        }
    }

    void due(long due, String name, long... args) {
        Call call = new Call(name, args);
        long got = make(call);
        Due.is("K " + kinds + ", call " + calls + ": " + call, got, due);
    }

    void yes(String name, long... args) {
        due(1L, name, args);
    }

    void no(String name, long... args) {
        due(0L, name, args);
    }

    void none(String name, long... args) {
        due(NONE, name, args);
    }

    /** With dark and white as at first, these values are the row's numbers too. */
    void show(int... values) {
        for (int k = 0; k < values.length; k++) {
            yes("value", k, values[k]);
        }
    }

    void showAll(int value) {
        for (int k = 0; k < 8; k++) {
            yes("value", k, value);
        }
    }

    /** Teaches each kind its row of ROWS, so that the row reads as the kind. */
    void teachAll() {
        for (int kind = 0; kind < kinds; kind++) {
            show(ROWS[kind]);
            due(kind, "teach", kind);
        }
    }

    /** Pixels at x, y and x, y and so on, which read as the kind after teachAll. */
    void pixels(int kind, int... places) {
        show(ROWS[kind]);
        for (int i = 0; i + 1 < places.length; i += 2) {
            yes("pixel", places[i], places[i + 1]);
        }
    }

    void unknownPixels(int... places) {
        yes("bound", 10000L);
        for (int i = 0; i + 1 < places.length; i += 2) {
            yes("pixel", places[i], places[i + 1]);
        }
        yes("bound", 1L);
    }

    void feedAll(int... bytes) {
        for (int b : bytes) {
            yes("feed", b);
        }
    }

    void packs(int... bytes) {
        for (int i = 0; i < bytes.length; i++) {
            due(bytes[i], "pack", i);
        }
        none("pack", bytes.length);
    }

    /** Packed rows of these numbers, nine a row: a kind and eight numbers. */
    static int[] packed(int kinds, int... rows) {
        int[] bytes = new int[rows.length + 3];
        bytes[0] = kinds;
        bytes[1] = rows.length / 9;
        System.arraycopy(rows, 0, bytes, 2, rows.length);
        return rested(bytes);
    }

    /** The bytes with the last one made the rest by 256 of the sum of all others. */
    static int[] rested(int... bytes) {
        int[] b = bytes.clone();
        int sum = 0;
        for (int i = 0; i + 1 < b.length; i++) {
            sum += b[i];
        }
        b[b.length - 1] = sum % 256;
        return b;
    }
}
