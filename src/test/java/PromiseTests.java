import java.util.Arrays;

/** For each promise its ordinary inputs, the edges that the document names, and wrong inputs. */
public final class PromiseTests {
    private static final int NONE = SpectrumHeads.NONE;
    private static final int[] WRONG_BYTES = {-1, 256, Integer.MIN_VALUE, Integer.MAX_VALUE};
    private static final int[] WRONG_CHANNELS = {-1, 8, Integer.MIN_VALUE, Integer.MAX_VALUE};

    public static void main(String[] args) {
        newObject();
        white();
        dark();
        value();
        evened();
        reference();
        teach();
        read();
        sum();
        bound();
        worth();
        leftOut();
        wrong();
        correct();
        pixel();
        piece();
        pieceKind();
        neighbours();
        pack();
        feed();
        open();
        Due.end();
    }

    // ---- helpers

    private static void values(SpectrumHeads x, int... vs) {
        for (int k = 0; k < vs.length; k++) {
            Due.yes("value(" + k + ", " + vs[k] + ")", x.value(k, vs[k]));
        }
    }

    private static void feedAll(SpectrumHeads x, int... bytes) {
        for (int b : bytes) {
            Due.yes("feed(" + b + ")", x.feed(b));
        }
    }

    private static void packIs(String when, SpectrumHeads x, int... bytes) {
        for (int i = 0; i < bytes.length; i++) {
            Due.is(when + ": pack(" + i + ")", x.pack(i), bytes[i]);
        }
        Due.is(when + ": pack behind the end", x.pack(bytes.length), NONE);
    }

    /** White as 1 or 0, or 2 when it throws what the document names. */
    private static int whiteOf(SpectrumHeads x, int k, int v) {
        try {
            return x.white(k, v) ? 1 : 0;
        } catch (ArrayIndexOutOfBoundsException e) {
            return 2;
        }
    }

    /** The evened number of channel 0, seen through a taught row. */
    private static int evenedOf(int dark, int white, int value) {
        SpectrumHeads x = new SpectrumHeads(1);
        x.dark(0, dark);
        x.white(0, white);
        x.value(0, value);
        x.teach(0);
        return x.pack(3);
    }

    /** Rows that read as the kind while nothing else is told: each kind has cells of its own. */
    private static void show(SpectrumHeads x, int kind) {
        for (int k = 0; k < 8; k++) {
            boolean high = kind == 0 ? k % 2 == 0 : kind == 1 ? k % 2 == 1 : kind == 2 ? k == 0 : k == 1;
            x.value(k, high ? 255 : 0);
        }
    }

    private static SpectrumHeads taughtAll(int kinds) {
        SpectrumHeads x = new SpectrumHeads(kinds);
        for (int kind = 0; kind < kinds; kind++) {
            show(x, kind);
            Due.is("teach", x.teach(kind), kind);
        }
        for (int kind = 0; kind < kinds; kind++) {
            show(x, kind);
            Due.is("read of a taught row", x.read(), kind);
        }
        return x;
    }

    private static void put(SpectrumHeads x, int kind, int... places) {
        show(x, kind);
        for (int i = 0; i + 1 < places.length; i += 2) {
            Due.yes("pixel(" + places[i] + ", " + places[i + 1] + ")", x.pixel(places[i], places[i + 1]));
        }
    }

    // ---- promise 1

    private static void newObject() {
        int[][] asked = {{1, 1}, {2, 2}, {3, 3}, {4, 4}, {0, 1}, {5, 1}, {-1, 1},
            {Integer.MIN_VALUE, 1}, {Integer.MAX_VALUE, 1}};
        for (int[] a : asked) {
            SpectrumHeads x = new SpectrumHeads(a[0]);
            packIs("new of " + a[0], x, a[1], 0, a[1]);
            Due.is("sum of the last kind", x.sum(a[1] - 1), 0);
            Due.is("sum behind the last kind", x.sum(a[1]), NONE);
            Due.is("read", x.read(), NONE);
            Due.is("leftOut(0)", x.leftOut(0), -2);
            Due.is("piece(0, 0)", x.piece(0, 0), NONE);
            Due.is("pieceKind(0)", x.pieceKind(0), NONE);
            Due.is("neighbours(0)", x.neighbours(0), NONE);
            Due.is("open() with nothing fed", x.open(), NONE);
            Due.is("teach(0)", x.teach(0), 0);
            packIs("first row of " + a[0], x, a[1], 1, 0, 0, 0, 0, 0, 0, 0, 0, 0, a[1] + 1);
        }
        Due.is("NONE", SpectrumHeads.NONE, -1);
    }

    // ---- promises 2 to 5

    private static void white() {
        SpectrumHeads x = new SpectrumHeads(1);
        for (int k : WRONG_CHANNELS) {
            Due.is("white(" + k + ", 5)", whiteOf(x, k, 5), 2);
            Due.is("white(" + k + ", 256)", whiteOf(x, k, 256), 2);
        }
        values(x, 50, 50, 50, 50, 50, 50, 50, 50);
        for (int k = 0; k < 8; k++) {
            Due.is("white", whiteOf(x, k, 100 + k), 1);
        }
        for (int v : WRONG_BYTES) {
            Due.is("white(0, " + v + ")", whiteOf(x, 0, v), 0);
        }
        x.teach(0);
        for (int k = 0; k < 8; k++) {
            Due.is("evened by white " + k, x.pack(3 + k), 256 * 50 / (100 + k));
        }
        Due.is("white(0, 0)", whiteOf(x, 0, 0), 1);
        Due.is("white(7, 255)", whiteOf(x, 7, 255), 1);
        x.teach(0);
        Due.is("evened by white 0", x.pack(12), 0);
        Due.is("evened by white 255", x.pack(19), 50);
    }

    private static void dark() {
        SpectrumHeads x = new SpectrumHeads(1);
        values(x, 128, 128, 128, 128, 128, 128, 128, 128);
        for (int k = 0; k < 8; k++) {
            Due.yes("dark", x.dark(k, 10 * k));
        }
        for (int v : WRONG_BYTES) {
            Due.no("dark(0, " + v + ")", x.dark(0, v));
        }
        for (int k : WRONG_CHANNELS) {
            Due.no("dark(" + k + ", 5)", x.dark(k, 5));
        }
        x.teach(0);
        for (int k = 0; k < 8; k++) {
            Due.is("evened by dark " + k, x.pack(3 + k), 256 * (128 - 10 * k) / (255 - 10 * k));
        }
        Due.yes("dark(0, 255)", x.dark(0, 255));
        Due.yes("dark(7, 0)", x.dark(7, 0));
        x.teach(0);
        Due.is("evened by dark 255", x.pack(12), 0);
        Due.is("evened by dark 0", x.pack(19), 128);
    }

    private static void value() {
        SpectrumHeads x = new SpectrumHeads(1);
        values(x, 0, 1, 63, 64, 127, 128, 254, 255);
        for (int v : WRONG_BYTES) {
            Due.no("value(3, " + v + ")", x.value(3, v));
        }
        for (int k : WRONG_CHANNELS) {
            Due.no("value(" + k + ", 5)", x.value(k, 5));
        }
        x.teach(0);
        packIs("values", x, 1, 1, 0, 0, 1, 63, 64, 127, 128, 254, 255, (2 + 892) % 256);
    }

    private static void evened() {
        Due.is("white equals dark", evenedOf(100, 100, 200), 0);
        Due.is("white below dark", evenedOf(101, 100, 200), 0);
        Due.is("white below dark, value below both", evenedOf(200, 100, 50), 0);
        Due.is("value below dark", evenedOf(100, 200, 50), 0);
        Due.is("value at dark", evenedOf(100, 200, 100), 0);
        Due.is("value above dark", evenedOf(100, 200, 101), 2);
        Due.is("value between", evenedOf(100, 200, 150), 128);
        Due.is("value below white", evenedOf(100, 200, 199), 253);
        Due.is("value at white", evenedOf(100, 200, 200), 255);
        Due.is("value above white", evenedOf(100, 200, 255), 255);
        Due.is("span of one, value at white", evenedOf(0, 1, 1), 255);
        Due.is("white 3, value 1", evenedOf(0, 3, 1), 85);
        Due.is("white 3, value 2", evenedOf(0, 3, 2), 170);
    }

    private static void reference() {
        SpectrumHeads x = new SpectrumHeads(1);
        values(x, 50, 50, 50, 50, 50, 50, 50, 50);
        Due.no("tick 0", x.reference(0, 100, 0L));
        Due.no("tick -1", x.reference(0, 100, -1L));
        Due.no("least tick", x.reference(0, 100, Long.MIN_VALUE));
        for (int v : WRONG_BYTES) {
            Due.no("v " + v, x.reference(0, v, 900L));
        }
        for (int k : WRONG_CHANNELS) {
            Due.no("channel " + k, x.reference(k, 100, 900L));
        }
        Due.yes("tick 1 after refused ones", x.reference(0, 100, 1L));
        Due.no("tick 1 again", x.reference(0, 200, 1L));
        Due.no("tick 1 of another channel", x.reference(1, 100, 1L));
        Due.yes("tick 2 of another channel", x.reference(1, 125, 2L));
        Due.no("tick 2 of the first", x.reference(0, 200, 2L));
        Due.yes("a tick beyond int", x.reference(2, 255, 5000000000L));
        Due.no("a tick below that", x.reference(2, 0, 4999999999L));
        Due.yes("the greatest tick", x.reference(7, 0, Long.MAX_VALUE));
        Due.no("the greatest tick again", x.reference(7, 255, Long.MAX_VALUE));
        x.teach(0);
        packIs("referenced", x, 1, 1, 0, 128, 102, 50, 50, 50, 50, 50, 0, (2 + 480) % 256);
        Due.is("white needs no tick", whiteOf(x, 0, 50), 1);
        x.teach(0);
        Due.is("white after reference", x.pack(12), 255);
    }

    // ---- promises 6 to 8

    private static void teach() {
        SpectrumHeads x = new SpectrumHeads(3);
        for (int kind : new int[] {-1, 3, Integer.MIN_VALUE, Integer.MAX_VALUE}) {
            Due.is("teach(" + kind + ")", x.teach(kind), NONE);
        }
        packIs("nothing taught", x, 3, 0, 3);
        for (int i = 0; i < 40; i++) {
            x.value(i % 8, i);
            Due.is("teach " + i, x.teach(i % 3), i);
        }
        Due.is("the 41st", x.teach(0), NONE);
        Due.is("how many", x.pack(1), 40);
        for (int i = 0; i < 40; i++) {
            Due.is("kind of row " + i, x.pack(2 + 9 * i), i % 3);
            Due.is("last value of row " + i, x.pack(3 + 9 * i + i % 8), i);
        }
    }

    private static void read() {
        SpectrumHeads x = new SpectrumHeads(3);
        Due.is("nothing taught", x.read(), NONE);
        values(x, 0, 255, 0, 255, 0, 255, 0, 255);
        x.teach(2);
        Due.is("the only taught", x.read(), 2);
        x.teach(1);
        Due.is("the same sums, the least", x.read(), 1);
        x.worth(2, 1L);
        Due.is("the same sums, the greatest worth", x.read(), 2);
        x.worth(0, 1000L);
        Due.is("worth is nothing against the sum", x.read(), 2);
        values(x, 255, 0, 255, 0, 255, 0, 255, 0);
        Due.is("no cell alike", x.read(), NONE);
        x.bound(0L);
        Due.is("no cell alike, bound 0, the greatest worth", x.read(), 0);
        x.teach(1);
        Due.is("half of the rows", x.read(), 1);
        SpectrumHeads y = new SpectrumHeads(4);
        y.bound(0L);
        Due.is("nothing taught, bound 0", y.read(), 0);
        y.worth(3, 7L);
        Due.is("nothing taught, bound 0, worth", y.read(), 3);
    }

    private static void sum() {
        SpectrumHeads x = new SpectrumHeads(2);
        Due.is("sum(-1)", x.sum(-1), NONE);
        Due.is("sum(2)", x.sum(2), NONE);
        Due.is("sum of a kind without rows", x.sum(0), 0);
        x.teach(0);
        Due.is("all alike", x.sum(0), 7000);
        Due.is("of the other kind", x.sum(1), 0);
        // cells go by 64: 63 up is still the middle cell, 64 up is the next, 1 down the one before
        x.value(7, 63);
        Due.is("63 up", x.sum(0), 7000);
        x.value(7, 64);
        Due.is("64 up", x.sum(0), 6000);
        x.value(7, 0);
        x.value(0, 1);
        Due.is("1 down", x.sum(0), 6000);
        x.value(0, 0);
        x.value(3, 255);
        Due.is("a peak", x.sum(0), 5000);
        x.teach(0);
        x.teach(0);
        x.value(3, 0);
        // two neighbours are alike in 1 of 3 rows, each goes down by itself
        Due.is("thirds", x.sum(0), 5000 + 333 + 333);
        x.value(3, 255);
        Due.is("two thirds", x.sum(0), 5000 + 666 + 666);
        x.teach(1);
        Due.is("each kind by its own rows", x.sum(1), 7000);
        x.dark(3, 255);
        Due.is("the row of now is evened", x.sum(0), 5000 + 333 + 333);
    }

    // ---- promises 9 and 10

    private static void bound() {
        SpectrumHeads x = new SpectrumHeads(1);
        x.teach(0);
        for (long v : new long[] {-1L, 10001L, Long.MIN_VALUE, Long.MAX_VALUE, 1L << 32}) {
            Due.no("bound(" + v + ")", x.bound(v));
        }
        Due.yes("bound(7000)", x.bound(7000L));
        Due.is("sum at the bound", x.read(), 0);
        Due.no("bound(10001)", x.bound(10001L));
        Due.is("a refused bound", x.read(), 0);
        Due.yes("bound(7001)", x.bound(7001L));
        Due.is("sum below the bound", x.read(), NONE);
        Due.no("bound(-1)", x.bound(-1L));
        Due.is("a refused bound stays out", x.read(), NONE);
        Due.yes("bound(10000)", x.bound(10000L));
        Due.is("the greatest bound", x.read(), NONE);
        Due.yes("bound(0)", x.bound(0L));
        Due.is("bound 0", x.read(), 0);
    }

    private static void worth() {
        SpectrumHeads x = new SpectrumHeads(3);
        x.bound(0L);
        for (int kind : new int[] {-1, 3, Integer.MIN_VALUE, Integer.MAX_VALUE}) {
            Due.no("worth(" + kind + ", 5)", x.worth(kind, 5L));
        }
        for (long v : new long[] {-1L, 1000001L, Long.MIN_VALUE, Long.MAX_VALUE, (1L << 32) + 5L}) {
            Due.no("worth(1, " + v + ")", x.worth(1, v));
        }
        Due.is("refused worths", x.read(), 0);
        Due.yes("worth(1, 1)", x.worth(1, 1L));
        Due.is("worth 1", x.read(), 1);
        Due.yes("worth(2, 1000000)", x.worth(2, 1000000L));
        Due.is("worth 1000000", x.read(), 2);
        Due.yes("worth(1, 1000000)", x.worth(1, 1000000L));
        Due.is("the same worth, the least", x.read(), 1);
        Due.yes("worth(1, 0)", x.worth(1, 0L));
        Due.is("worth 0 again", x.read(), 2);
    }

    // ---- promises 11 to 13

    private static void leftOut() {
        SpectrumHeads x = new SpectrumHeads(2);
        Due.is("nothing taught", x.leftOut(0), -2);
        values(x, 0, 255, 0, 255, 0, 255, 0, 255);
        x.teach(0);
        Due.is("the only row", x.leftOut(0), NONE);
        Due.is("leftOut(1)", x.leftOut(1), -2);
        Due.is("leftOut(-1)", x.leftOut(-1), -2);
        Due.is("leftOut of the least", x.leftOut(Integer.MIN_VALUE), -2);
        Due.is("leftOut of the greatest", x.leftOut(Integer.MAX_VALUE), -2);
        values(x, 255, 0, 255, 0, 255, 0, 255, 0);
        Due.is("not the row of now", x.leftOut(0), NONE);
        x.teach(1);
        Due.is("no cell alike in what is left", x.leftOut(0), NONE);
        values(x, 0, 255, 255, 255, 255, 255, 255, 255);
        x.teach(1);
        Due.is("one cell alike in one of two", x.leftOut(0), 1);
        x.bound(500L);
        Due.is("500 at the bound", x.leftOut(0), 1);
        x.bound(501L);
        Due.is("500 below the bound", x.leftOut(0), NONE);
        values(x, 0, 255, 0, 255, 0, 255, 0, 255);
        x.teach(0);
        Due.is("its twin is left", x.leftOut(0), 0);
        Due.is("and the other way", x.leftOut(3), 0);
        Due.is("nothing is taken away", x.pack(1), 4);
        Due.is("nothing is taken away, sum", x.sum(0), 7000);
    }

    private static void wrong() {
        SpectrumHeads x = new SpectrumHeads(2);
        Due.is("a kind without rows", x.wrong(0, 0), 0);
        for (int kind : new int[] {-2, 2, Integer.MIN_VALUE, Integer.MAX_VALUE}) {
            Due.is("wrong(" + kind + ", 0)", x.wrong(kind, 0), NONE);
            Due.is("wrong(0, " + kind + ")", x.wrong(0, kind), NONE);
        }
        Due.is("wrong(-1, 0)", x.wrong(-1, 0), NONE);
        Due.is("wrong(-1, -1)", x.wrong(-1, -1), NONE);
        values(x, 0, 255, 0, 255, 0, 255, 0, 255);
        x.teach(0);
        x.teach(0);
        x.teach(1);
        values(x, 255, 0, 255, 0, 255, 0, 255, 0);
        x.teach(0);
        // rows 0 and 1: kind 0 has a twin in two rows (3500), kind 1 a twin in one (7000)
        Due.is("wrong(0, 1)", x.wrong(0, 1), 2);
        Due.is("wrong(0, 0)", x.wrong(0, 0), 0);
        Due.is("wrong(0, NONE)", x.wrong(0, NONE), 1);
        // row 2: left out, kind 1 has no rows
        Due.is("wrong(1, 0)", x.wrong(1, 0), 1);
        Due.is("wrong(1, 1)", x.wrong(1, 1), 0);
        Due.is("wrong(1, NONE)", x.wrong(1, NONE), 0);
        x.bound(4667L);
        Due.is("wrong(1, NONE) by the bound", x.wrong(1, NONE), 1);
    }

    private static void correct() {
        SpectrumHeads x = new SpectrumHeads(3);
        Due.is("nothing taught", x.correct(0, 0), NONE);
        values(x, 0, 255, 0, 255, 0, 255, 0, 255);
        x.teach(0);
        x.teach(2);
        for (int row : new int[] {-1, 2, Integer.MIN_VALUE, Integer.MAX_VALUE}) {
            Due.is("correct(" + row + ", 0)", x.correct(row, 0), NONE);
        }
        for (int kind : new int[] {-1, 3, Integer.MIN_VALUE, Integer.MAX_VALUE}) {
            Due.is("correct(0, " + kind + ")", x.correct(0, kind), NONE);
        }
        Due.is("kept", x.pack(2), 0);
        Due.is("to the same", x.correct(1, 2), 2);
        Due.is("to another", x.correct(1, 1), 2);
        Due.is("its kind", x.pack(11), 1);
        Due.is("once more", x.correct(1, 0), 1);
        Due.is("rows of kind 2", x.sum(2), 0);
        Due.is("twins of one kind", x.leftOut(0), 0);
        Due.is("how many", x.pack(1), 2);
        x.pixel(0, 0);
        Due.is("correct", x.correct(0, 1), 0);
        Due.is("correct", x.correct(1, 1), 0);
        Due.is("the pixel stays what it read as", x.pieceKind(0), 0);
    }

    // ---- promises 14 to 17

    private static void pixel() {
        SpectrumHeads x = new SpectrumHeads(1);
        x.teach(0);
        for (int v : new int[] {-1, 16, Integer.MIN_VALUE, Integer.MAX_VALUE}) {
            Due.no("pixel(" + v + ", 0)", x.pixel(v, 0));
            Due.no("pixel(0, " + v + ")", x.pixel(0, v));
        }
        Due.yes("pixel(0, 0)", x.pixel(0, 0));
        Due.no("pixel(0, 0) again", x.pixel(0, 0));
        Due.yes("pixel(15, 0)", x.pixel(15, 0));
        Due.yes("pixel(0, 15)", x.pixel(0, 15));
        Due.yes("pixel(15, 15)", x.pixel(15, 15));
        x.bound(10000L);
        Due.yes("an unknown one", x.pixel(8, 8));
        x.bound(1L);
        Due.no("an unknown one was told", x.pixel(8, 8));
        Due.is("it stays unknown", x.piece(8, 8), NONE);
        for (int i = 5; i < 100; i++) {
            Due.yes("pixel " + i, x.pixel(i % 14 + 1, i / 14));
        }
        Due.no("the 101st", x.pixel(12, 12));
        Due.is("the 101st is not told", x.piece(12, 12), NONE);
        Due.no("a told one", x.pixel(15, 15));
        SpectrumHeads y = new SpectrumHeads(1);
        for (int i = 0; i < 100; i++) {
            Due.yes("unknown " + i, y.pixel(i % 16, i / 16));
        }
        Due.no("the 101st after unknown ones", y.pixel(15, 15));
    }

    private static void piece() {
        SpectrumHeads x = taughtAll(2);
        put(x, 0, 5, 5, 3, 5, 15, 3, 0, 4);
        Due.is("one row apart is no side", x.piece(15, 3), 0);
        Due.is("by y", x.piece(0, 4), 1);
        Due.is("then by x", x.piece(3, 5), 2);
        Due.is("then by x", x.piece(5, 5), 3);
        for (int v : new int[] {-1, 16, Integer.MIN_VALUE, Integer.MAX_VALUE}) {
            Due.is("piece(" + v + ", 5)", x.piece(v, 5), NONE);
            Due.is("piece(5, " + v + ")", x.piece(5, v), NONE);
        }
        Due.is("not told", x.piece(4, 5), NONE);
        x.bound(10000L);
        put(x, 0, 4, 5);
        x.bound(1L);
        Due.is("unknown", x.piece(4, 5), NONE);
        Due.is("unknown joins nothing", x.piece(5, 5), 3);
        put(x, 1, 4, 6, 3, 6);
        Due.is("another kind hangs on", x.piece(3, 6), 2);
        Due.is("a corner does not join", x.piece(5, 5), 3);
        put(x, 1, 5, 6);
        Due.is("joined", x.piece(5, 5), 2);
        put(x, 0, 7, 0);
        Due.is("a new first one", x.piece(7, 0), 0);
        Due.is("the others move on", x.piece(5, 5), 3);
        snake();
        wholeBelt();
    }

    /** As many pixels as there may be: in one piece, then in a hundred. */
    private static void wholeBelt() {
        SpectrumHeads x = taughtAll(1);
        for (int i = 0; i < 100; i++) {
            Due.yes("block", x.pixel(i % 10, i / 10));
        }
        for (int i = 0; i < 100; i++) {
            Due.is("piece of block " + i, x.piece(i % 10, i / 10), 0);
        }
        Due.is("one piece", x.neighbours(1), NONE);
        SpectrumHeads z = taughtAll(1);
        for (int i = 99; i >= 0; i--) {
            Due.yes("board", z.pixel(i % 8 * 2 + i / 8 % 2, i / 8));
        }
        for (int i = 0; i < 100; i++) {
            Due.is("piece of board " + i, z.piece(i % 8 * 2 + i / 8 % 2, i / 8), i);
        }
        Due.is("the first has a corner", z.neighbours(0), 1);
        Due.is("one inside has four", z.neighbours(9), 4);
        Due.is("the last one", z.neighbours(99), 2);
        Due.is("the last one's kind", z.pieceKind(99), 0);
        Due.is("no more pieces", z.pieceKind(100), NONE);
    }

    /** A piece that winds from its last place back to its first. */
    private static void snake() {
        SpectrumHeads x = taughtAll(1);
        for (int y = 0; y < 11; y += 2) {
            for (int i = 0; i < 15; i++) {
                Due.yes("snake", x.pixel(i, y));
            }
            if (y < 10) {
                Due.is("not joined yet", x.piece(14, y), y / 2);
            }
        }
        for (int y = 1; y < 10; y += 2) {
            Due.yes("bend", x.pixel(y % 4 == 1 ? 14 : 0, y));
        }
        Due.is("the snake's head", x.piece(0, 0), 0);
        Due.is("the snake's tail", x.piece(0, 10), 0);
        Due.is("one piece", x.pieceKind(1), NONE);
        Due.is("one piece, kind", x.pieceKind(0), 0);
    }

    private static void pieceKind() {
        SpectrumHeads x = taughtAll(3);
        Due.is("no piece", x.pieceKind(0), NONE);
        put(x, 2, 0, 0, 1, 0);
        put(x, 1, 2, 0, 3, 0);
        Due.is("as many, the least", x.pieceKind(0), 1);
        x.worth(0, 9L);
        Due.is("a kind that is not there", x.pieceKind(0), 1);
        x.worth(2, 1L);
        Due.is("as many, the greatest worth", x.pieceKind(0), 2);
        put(x, 1, 4, 0);
        Due.is("most", x.pieceKind(0), 1);
        put(x, 0, 8, 8);
        Due.is("the second piece", x.pieceKind(1), 0);
        put(x, 1, 0, 15);
        show(x, 0);
        Due.is("the row of now", x.read(), 0);
        Due.is("is nothing to a piece", x.pieceKind(2), 1);
        for (int p : new int[] {-1, 3, Integer.MIN_VALUE, Integer.MAX_VALUE}) {
            Due.is("pieceKind(" + p + ")", x.pieceKind(p), NONE);
        }
    }

    private static void neighbours() {
        SpectrumHeads x = taughtAll(2);
        Due.is("no piece", x.neighbours(0), NONE);
        put(x, 0, 5, 5);
        Due.is("alone", x.neighbours(0), 0);
        put(x, 1, 4, 4, 6, 4, 4, 6, 6, 6);
        Due.is("four corners", x.neighbours(2), 4);
        Due.is("a corner", x.neighbours(0), 1);
        put(x, 0, 3, 4, 2, 4, 2, 5, 2, 6, 3, 6);
        // two corners are one piece now
        Due.is("numbers then", x.piece(4, 6), 0);
        Due.is("the same neighbour counts once", x.neighbours(2), 3);
        put(x, 0, 8, 5, 15, 4, 0, 5);
        Due.is("two apart", x.neighbours(x.piece(8, 5)), 0);
        Due.is("the belt's sides do not meet", x.neighbours(x.piece(15, 4)), 0);
        Due.is("the belt's sides do not meet", x.neighbours(x.piece(0, 5)), 0);
        for (int p : new int[] {-1, 7, Integer.MIN_VALUE, Integer.MAX_VALUE}) {
            Due.is("neighbours(" + p + ")", x.neighbours(p), NONE);
        }
        Due.is("the last piece", x.neighbours(6), 1);
        x.bound(10000L);
        put(x, 0, 9, 6);
        Due.is("unknown is no neighbour", x.neighbours(x.piece(8, 5)), 0);
    }

    // ---- promises 18 to 20

    private static void pack() {
        SpectrumHeads x = new SpectrumHeads(3);
        for (int i : new int[] {-1, 3, Integer.MIN_VALUE, Integer.MAX_VALUE}) {
            Due.is("pack(" + i + ")", x.pack(i), NONE);
        }
        values(x, 1, 2, 3, 4, 5, 6, 7, 8);
        x.teach(2);
        values(x, 255, 254, 253, 252, 251, 250, 249, 248);
        x.teach(1);
        packIs("two rows", x, 3, 2, 2, 1, 2, 3, 4, 5, 6, 7, 8,
            1, 255, 254, 253, 252, 251, 250, 249, 248, (3 + 2 + 2 + 36 + 1 + 2012) % 256);
        x.value(0, 9);
        x.dark(1, 200);
        Due.is("a taught row keeps its numbers", x.pack(3), 1);
        Due.is("a taught row keeps its numbers", x.pack(13), 254);
    }

    private static void feed() {
        SpectrumHeads x = new SpectrumHeads(2);
        for (int b : WRONG_BYTES) {
            Due.no("feed(" + b + ")", x.feed(b));
        }
        feedAll(x, 2, 0, 2);
        Due.is("wrong bytes are not fed", x.open(), 0);
        for (int i = 0; i < 400; i++) {
            Due.yes("feed " + i, x.feed(i == 0 ? 2 : i == 2 ? 255 : 0));
        }
        Due.no("the 401st", x.feed(0));
        Due.is("opened", x.open(), NONE);
        feedAll(x, 2, 0, 2);
        Due.is("fed anew", x.open(), 0);
    }

    private static void open() {
        int[] good = {3, 2, 2, 10, 20, 30, 40, 50, 60, 70, 80, 0, 255, 0, 255, 0, 255, 0, 255, 0, 0};
        good[20] = sumOf(good, 20) % 256;
        refused("nothing");
        refused("one byte", 3);
        refused("two bytes", 3, 0);
        refused("no rows and more", 3, 0, 3, 0);
        refused("wrong rest", 3, 0, 4);
        refused("another K", 2, 0, 2);
        refused("another K", 4, 0, 4);
        refused("one byte short", Arrays.copyOf(good, 20));
        refused("one byte more", Arrays.copyOf(good, 22));
        refused("a kind not below K", changed(good, 2, 3));
        refused("a kind not below K", changed(good, 11, 255));
        refused("more rows than bytes", changed(good, 1, 3));
        refused("fewer rows than bytes", changed(good, 1, 1));
        for (int i = 0; i < 21; i++) {
            int[] bad = good.clone();
            bad[i] ^= 1;
            refused("byte " + i + " off", bad);
        }
        SpectrumHeads x = new SpectrumHeads(3);
        x.teach(1);
        feedAll(x, good);
        Due.is("opened", x.open(), 2);
        packIs("opened", x, good);
        Due.is("nothing is fed then", x.open(), NONE);
        values(x, 10, 20, 30, 40, 50, 60, 70, 80);
        Due.is("reads by opened rows", x.read(), 2);
        Due.is("kinds of before are gone", x.sum(1), 0);
        Due.is("numbered on", x.teach(1), 2);
        feedAll(x, 3, 0, 3);
        Due.is("no rows", x.open(), 0);
        packIs("no rows", x, 3, 0, 3);
        Due.is("no rows then", x.leftOut(0), -2);
        Due.is("numbered anew", x.teach(1), 0);
        openForty();
    }

    private static void openForty() {
        SpectrumHeads x = new SpectrumHeads(4);
        int[] forty = new int[363];
        forty[0] = 4;
        forty[1] = 40;
        for (int i = 0; i < 40; i++) {
            forty[2 + 9 * i] = i % 4;
            forty[10 + 9 * i] = 255 - i;
        }
        forty[362] = sumOf(forty, 362) % 256;
        feedAll(x, forty);
        Due.is("forty rows", x.open(), 40);
        Due.is("no more rows", x.teach(0), NONE);
        Due.is("the last row's last number", x.pack(361), 216);
        SpectrumHeads y = new SpectrumHeads(4);
        int[] more = Arrays.copyOf(forty, 372);
        more[1] = 41;
        more[362] = 0;
        more[371] = sumOf(more, 371) % 256;
        feedAll(y, more);
        Due.is("forty-one rows", y.open(), NONE);
        Due.is("nothing taught", y.pack(1), 0);
    }

    /** On an object of its own, so that none has more than 512 calls. */
    private static void refused(String what, int... bytes) {
        SpectrumHeads x = new SpectrumHeads(3);
        values(x, 0, 255, 0, 255, 0, 255, 0, 255);
        x.teach(1);
        feedAll(x, bytes);
        Due.is("open of " + what, x.open(), NONE);
        packIs("after " + what, x, 3, 1, 1, 0, 255, 0, 255, 0, 255, 0, 255, (5 + 4 * 255) % 256);
        feedAll(x, 3, 0, 3);
        Due.is("fed anew after " + what, x.open(), 0);
    }

    /** The bytes with one changed and the last one made to agree. */
    private static int[] changed(int[] bytes, int i, int to) {
        int[] c = bytes.clone();
        c[i] = to;
        c[c.length - 1] = sumOf(c, c.length - 1) % 256;
        return c;
    }

    private static int sumOf(int[] bytes, int end) {
        int s = 0;
        for (int i = 0; i < end; i++) {
            s += bytes[i];
        }
        return s;
    }
}
