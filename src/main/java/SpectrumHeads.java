import java.util.Arrays;

/** Optical heads over a belt; ../shared/DOC.md says what each call promises. */
public final class SpectrumHeads {
    public static final int NONE = -1;

    private static final int NO_SUCH_ROW = -2;
    private static final int MOST_KINDS = 4;
    private static final int CHANNELS = 8;
    private static final int CELLS = 7;
    private static final int TOP = 255;
    private static final int BYTES = 256;
    private static final int MOST_TAUGHT = 40;
    private static final int MOST_FED = 400;
    private static final long MOST_BOUND = 10000L;
    private static final long MOST_WORTH = 1000000L;

    private final int kinds;
    private final Channels channels;
    private final Table table;
    private final Belt belt;
    private final long[] worths;
    private long least;
    private final int[] fed;
    private int fedCount;
    // Filled anew by each call that needs them, so that no call makes an array.
    private final int[] nowRow;
    private final int[] nowCells;
    private final long[] scores;

    public SpectrumHeads(int kinds) {
        this.kinds = kinds >= 1 && kinds <= MOST_KINDS ? kinds : 1;
        channels = new Channels();
        table = new Table(this.kinds);
        belt = new Belt();
        worths = new long[this.kinds];
        least = 1L;
        fed = new int[MOST_FED];
        fedCount = 0;
        nowRow = new int[CHANNELS];
        nowCells = new int[CELLS];
        scores = new long[this.kinds];
    }

    public boolean white(int k, int v) throws ArrayIndexOutOfBoundsException {
        // No channel is told before a wrong value: the document's throw has no condition beside it.
        if (!isChannel(k)) {
            throw new ArrayIndexOutOfBoundsException("there is no such channel");
        }
        return isByte(v) && channels.setWhite(k, v);
    }

    public boolean dark(int k, int v) {
        return isChannel(k) && isByte(v) && channels.setDark(k, v);
    }

    public boolean value(int k, int v) {
        return isChannel(k) && isByte(v) && channels.setValue(k, v);
    }

    public boolean reference(int k, int v, long tick) {
        return isChannel(k) && isByte(v) && channels.setWhiteAt(k, v, tick);
    }

    public int teach(int kind) {
        if (!isKind(kind)) {
            return NONE;
        }
        lookAtNow();
        return table.add(kind, nowRow);
    }

    public int read() {
        lookAtNow();
        return readCells(nowCells, NONE);
    }

    public long sum(int kind) {
        if (!isKind(kind)) {
            return NONE;
        }
        lookAtNow();
        return table.sumOf(kind, nowCells, NONE);
    }

    public boolean bound(long v) {
        if (v < 0L || v > MOST_BOUND) {
            return false;
        }
        least = v;
        return true;
    }

    public boolean worth(int kind, long cents) {
        if (!isKind(kind) || cents < 0L || cents > MOST_WORTH) {
            return false;
        }
        worths[kind] = cents;
        return true;
    }

    public int leftOut(int taught) {
        return table.has(taught) ? readWithout(taught) : NO_SUCH_ROW;
    }

    public long wrong(int kind, int as) {
        if (!isKind(kind) || !isKind(as) && as != NONE) {
            return NONE;
        }
        long found = 0L;
        int rows = table.size();
        for (int i = 0; i < rows; i++) {
            if (table.kindOf(i) == kind && readWithout(i) == as) {
                found++;
            }
        }
        return found;
    }

    public int correct(int taught, int kind) {
        if (!table.has(taught) || !isKind(kind)) {
            return NONE;
        }
        int before = table.kindOf(taught);
        table.setKind(taught, kind);
        return before;
    }

    public boolean pixel(int x, int y) {
        if (!belt.isFree(x, y)) {
            return false;
        }
        lookAtNow();
        belt.tell(x, y, readCells(nowCells, NONE));
        return true;
    }

    public int piece(int x, int y) {
        return belt.pieceAt(x, y);
    }

    public int pieceKind(int piece) {
        if (!belt.hasPiece(piece)) {
            return NONE;
        }
        for (int kind = 0; kind < kinds; kind++) {
            scores[kind] = belt.countIn(piece, kind);
        }
        return greatest();
    }

    public int neighbours(int piece) {
        return belt.hasPiece(piece) ? belt.countNeighbours(piece) : NONE;
    }

    public int pack(int i) {
        return table.packedByte(i);
    }

    public boolean feed(int b) {
        if (!isByte(b) || fedCount >= MOST_FED) {
            return false;
        }
        fed[fedCount] = b;
        fedCount++;
        return true;
    }

    public int open() {
        int length = fedCount;
        fedCount = 0;
        if (!table.fits(fed, length)) {
            return NONE;
        }
        table.load(fed);
        return table.size();
    }

    private static boolean isChannel(int k) {
        return k >= 0 && k < CHANNELS;
    }

    private static boolean isByte(int v) {
        return v >= 0 && v <= TOP;
    }

    private boolean isKind(int kind) {
        return kind >= 0 && kind < kinds;
    }

    private void lookAtNow() {
        channels.fillRow(nowRow);
        Table.fillCells(nowRow, nowCells);
    }

    private int readWithout(int taught) {
        return readCells(table.cellsOf(taught), taught);
    }

    private int readCells(int[] cells, int without) {
        for (int kind = 0; kind < kinds; kind++) {
            scores[kind] = table.sumOf(kind, cells, without);
        }
        int best = greatest();
        return scores[best] < least ? NONE : best;
    }

    /** The kind that reads and pieces both choose: by score, then by worth, then the least. */
    private int greatest() {
        int best = 0;
        for (int kind = 1; kind < kinds; kind++) {
            boolean same = scores[kind] == scores[best];
            if (scores[kind] > scores[best] || same && worths[kind] > worths[best]) {
                best = kind;
            }
        }
        return best;
    }

    /** The eight channels as they are now. */
    private static final class Channels {
        private final int[] darks = new int[CHANNELS];
        private final int[] whites = new int[CHANNELS];
        private final int[] values = new int[CHANNELS];
        private long lastTick;

        Channels() {
            Arrays.fill(whites, TOP);
            lastTick = 0L;
        }

        boolean setWhite(int k, int v) {
            whites[k] = v;
            return true;
        }

        boolean setDark(int k, int v) {
            darks[k] = v;
            return true;
        }

        boolean setValue(int k, int v) {
            values[k] = v;
            return true;
        }

        boolean setWhiteAt(int k, int v, long tick) {
            if (tick <= lastTick) {
                return false;
            }
            lastTick = tick;
            return setWhite(k, v);
        }

        void fillRow(int[] row) {
            for (int k = 0; k < CHANNELS; k++) {
                row[k] = evened(k);
            }
        }

        private int evened(int k) {
            int span = whites[k] - darks[k];
            int above = values[k] - darks[k];
            if (span <= 0 || above <= 0) {
                return 0;
            }
            return Math.min(TOP, 256 * above / span);
        }
    }

    /** The taught rows: told apart by their cells, packed by their numbers. */
    private static final class Table {
        private static final int HEAD = 2;
        private static final int ROW_BYTES = 9;

        private final int kinds;
        private final int[] rowKinds = new int[MOST_TAUGHT];
        private final int[][] rows = new int[MOST_TAUGHT][CHANNELS];
        private final int[][] rowCells = new int[MOST_TAUGHT][CELLS];
        private final int[] alike = new int[CELLS];
        private int count;

        Table(int kinds) {
            this.kinds = kinds;
            count = 0;
        }

        static void fillCells(int[] row, int[] cells) {
            for (int k = 0; k < CELLS; k++) {
                // Never negative, so that this division goes down.
                cells[k] = (row[k + 1] - row[k] + 256) / 64;
            }
        }

        int size() {
            return count;
        }

        boolean has(int taught) {
            return taught >= 0 && taught < count;
        }

        int kindOf(int taught) {
            return rowKinds[taught];
        }

        int[] cellsOf(int taught) {
            return rowCells[taught];
        }

        void setKind(int taught, int kind) {
            rowKinds[taught] = kind;
        }

        int add(int kind, int[] row) {
            if (count >= MOST_TAUGHT) {
                return NONE;
            }
            int taught = count;
            put(taught, kind, row, 0);
            count++;
            return taught;
        }

        private void put(int taught, int kind, int[] from, int first) {
            rowKinds[taught] = kind;
            System.arraycopy(from, first, rows[taught], 0, CHANNELS);
            fillCells(rows[taught], rowCells[taught]);
        }

        /** The sum over the kind's taught rows but the one left out (NONE: over all). */
        long sumOf(int kind, int[] cells, int without) {
            Arrays.fill(alike, 0);
            int ofKind = 0;
            for (int i = 0; i < count; i++) {
                if (rowKinds[i] == kind && i != without) {
                    ofKind++;
                    countAlike(cells, rowCells[i]);
                }
            }
            if (ofKind == 0) {
                return 0L;
            }
            long together = 0L;
            for (int k = 0; k < CELLS; k++) {
                together += alike[k] * 1000 / ofKind;
            }
            return together;
        }

        private void countAlike(int[] cells, int[] others) {
            for (int k = 0; k < CELLS; k++) {
                if (cells[k] == others[k]) {
                    alike[k]++;
                }
            }
        }

        int packedByte(int i) {
            int end = HEAD + ROW_BYTES * count;
            if (i < 0 || i > end) {
                return NONE;
            }
            return i < end ? plainByte(i) : check(end);
        }

        private int plainByte(int i) {
            if (i < HEAD) {
                return i == 0 ? kinds : count;
            }
            int taught = (i - HEAD) / ROW_BYTES;
            int part = (i - HEAD) % ROW_BYTES;
            return part == 0 ? rowKinds[taught] : rows[taught][part - 1];
        }

        private int check(int end) {
            int together = 0;
            for (int i = 0; i < end; i++) {
                together += plainByte(i);
            }
            return together % BYTES;
        }

        boolean fits(int[] bytes, int length) {
            if (length <= HEAD || bytes[0] != kinds || bytes[1] > MOST_TAUGHT) {
                return false;
            }
            int end = HEAD + ROW_BYTES * bytes[1];
            if (length != end + 1) {
                return false;
            }
            int together = 0;
            for (int i = 0; i < end; i++) {
                if (i >= HEAD && (i - HEAD) % ROW_BYTES == 0 && bytes[i] >= kinds) {
                    return false;
                }
                together += bytes[i];
            }
            return bytes[end] == together % BYTES;
        }

        /** Takes bytes that fit. */
        void load(int[] bytes) {
            count = Math.min(MOST_TAUGHT, bytes[1]);
            for (int i = 0; i < count; i++) {
                int start = HEAD + ROW_BYTES * i;
                put(i, bytes[start], bytes, start + 1);
            }
        }
    }

    /** The pixels told, and the pieces that they join to. */
    private static final class Belt {
        private static final int SIDE = 16;
        private static final int PLACES = 256;
        private static final int MOST_PIXELS = 100;
        private static final int UNTOLD = -2;

        // A place is 16 * y + x: places that rise go by y, then by x.
        private final int[] kindAt = new int[PLACES];
        private final int[] numberAt = new int[PLACES];
        private final int[] joined = new int[MOST_PIXELS];
        private final int[] met = new int[MOST_PIXELS];
        private int joinedCount;
        private int pixels;
        private int pieces;

        Belt() {
            Arrays.fill(kindAt, UNTOLD);
            Arrays.fill(numberAt, NONE);
            joinedCount = 0;
            pixels = 0;
            pieces = 0;
        }

        private static boolean isPlace(int x, int y) {
            return x >= 0 && x < SIDE && y >= 0 && y < SIDE;
        }

        boolean isFree(int x, int y) {
            return isPlace(x, y) && pixels < MOST_PIXELS && kindAt[SIDE * y + x] == UNTOLD;
        }

        boolean hasPiece(int number) {
            return number >= 0 && number < pieces;
        }

        int pieceAt(int x, int y) {
            return isPlace(x, y) ? numberAt[SIDE * y + x] : NONE;
        }

        /** Takes a place that is free. */
        void tell(int x, int y, int kind) {
            kindAt[SIDE * y + x] = kind;
            pixels++;
            if (kind != NONE) {
                numberPieces();
            }
        }

        private void numberPieces() {
            Arrays.fill(numberAt, NONE);
            pieces = 0;
            for (int place = 0; place < PLACES; place++) {
                if (kindAt[place] >= 0 && numberAt[place] == NONE) {
                    joinFrom(place);
                    pieces++;
                }
            }
        }

        private void joinFrom(int first) {
            joinedCount = 0;
            join(first % SIDE, first / SIDE);
            for (int i = 0; i < joinedCount && i < MOST_PIXELS; i++) {
                int x = joined[i] % SIDE;
                int y = joined[i] / SIDE;
                join(x, y - 1);
                join(x - 1, y);
                join(x + 1, y);
                join(x, y + 1);
            }
        }

        private void join(int x, int y) {
            if (!isPlace(x, y) || joinedCount >= MOST_PIXELS) {
                return;
            }
            int place = SIDE * y + x;
            if (kindAt[place] >= 0 && numberAt[place] == NONE) {
                numberAt[place] = pieces;
                joined[joinedCount] = place;
                joinedCount++;
            }
        }

        int countIn(int number, int kind) {
            int found = 0;
            for (int place = 0; place < PLACES; place++) {
                if (numberAt[place] == number && kindAt[place] == kind) {
                    found++;
                }
            }
            return found;
        }

        int countNeighbours(int number) {
            Arrays.fill(met, 0);
            for (int place = 0; place < PLACES; place++) {
                if (numberAt[place] == number) {
                    meetRound(place % SIDE, place / SIDE);
                }
            }
            int others = 0;
            for (int other = 0; other < MOST_PIXELS; other++) {
                others += other == number ? 0 : met[other];
            }
            return others;
        }

        private void meetRound(int x, int y) {
            for (int dy = -1; dy <= 1; dy++) {
                for (int dx = -1; dx <= 1; dx++) {
                    int other = pieceAt(x + dx, y + dy);
                    if (other >= 0 && other < MOST_PIXELS) {
                        met[other] = 1;
                    }
                }
            }
        }
    }
}
