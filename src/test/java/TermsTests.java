/** The sentences under "Terms" that name a boundary case, each with a test of its own. */
public final class TermsTests {
    private static final int NONE = SpectrumHeads.NONE;

    public static void main(String[] args) {
        Due.sentence("KINDS 0 .. K - 1", TermsTests::kinds);
        Due.sentence("eight CHANNELS, 0 .. 7", TermsTests::eightChannels);
        Due.sentence("a DARK and a WHITE (0 and 255 at first)", TermsTests::darkAndWhiteAtFirst);
        Due.sentence("a VALUE (0 at first)", TermsTests::valueAtFirst);
        Due.sentence("EVENED: at least 0", TermsTests::evenedAtLeast);
        Due.sentence("EVENED: at most 255", TermsTests::evenedAtMost);
        Due.sentence("EVENED: 0 when white is not greater than dark", TermsTests::evenedWithoutSpan);
        Due.sentence("EVENED: 256 times value less dark over white less dark, down", TermsTests::evenedDown);
        Due.sentence("CELLS: over 64, down", TermsTests::cellsDown);
        Due.sentence("CELLS: 0 .. 7", TermsTests::eightCells);
        Due.sentence("TAUGHT rows are numbered from 0 on, 40 at most", TermsTests::fortyRows);
        Due.sentence("SUM: times 1000, over how many, down; together", TermsTests::sumDown);
        Due.sentence("SUM: 0 for a kind without taught rows", TermsTests::sumWithoutRows);
        Due.sentence("READS: the greatest sum", TermsTests::readsGreatestSum);
        Due.sentence("READS: of those with the same the greatest WORTH (0 at first)", TermsTests::readsGreatestWorth);
        Due.sentence("READS: of those the least", TermsTests::readsLeast);
        Due.sentence("UNKNOWN when that sum is less than the BOUND", TermsTests::unknownBelowBound);
        Due.sentence("the BOUND (1 at first)", TermsTests::boundAtFirst);
        Due.sentence("PIXELS are places x, y of 0 .. 15", TermsTests::places);
        Due.sentence("PIXELS: each told once", TermsTests::toldOnce);
        Due.sentence("PIXELS: 100 at most", TermsTests::hundredPixels);
        Due.sentence("PIXELS: with the kind as which the row of then read", TermsTests::kindOfThen);
        Due.sentence("PIXELS: those that read as unknown are in no piece", TermsTests::unknownInNoPiece);
        Due.sentence("hang together: x or y one apart; NEIGHBOURS: each at most one apart", TermsTests::twoPlaces);
        Due.sentence("hang together: on each side, but not over the belt's sides", TermsTests::threePlaces);
        Due.sentence("hang together: not from the belt's last line to its first", TermsTests::lastAndFirstLine);
        Due.sentence("PIECES are what hangs together", TermsTests::winding);
        Due.sentence("hang together: whatever kinds they are", TermsTests::whateverKinds);
        Due.sentence("PIECES are numbered by their first pixel: by y, then by x", TermsTests::numbered);
        Due.sentence("the kind of a piece: what most of its pixels are", TermsTests::mostPixels);
        Due.sentence("the kind of a piece: as many, the greatest worth", TermsTests::pieceGreatestWorth);
        Due.sentence("the kind of a piece: of those the least", TermsTests::pieceLeast);
        Due.sentence("NEIGHBOURS are pieces", TermsTests::neighboursArePieces);
        Due.sentence("PACKED: the rest by 256 of the sum of all these", TermsTests::rest);
        Due.end();
    }

    private static void kinds() {
        for (int kinds = 1; kinds <= 4; kinds++) {
            Run x = new Run(kinds);
            for (int kind = 0; kind < kinds; kind++) {
                x.due(0, "sum", kind);
                x.due(kind, "teach", kind);
            }
            x.none("sum", kinds);
            x.none("teach", kinds);
            x.none("sum", -1);
            x.none("teach", -1);
        }
    }

    // ---- channels

    private static void eightChannels() {
        Run x = new Run(1);
        for (int k = 0; k < 8; k++) {
            x.yes("value", k, 10 + k);
            x.yes("dark", k, k);
            x.yes("white", k, 200 + k);
        }
        x.no("value", 8, 1);
        x.no("value", -1, 1);
        x.no("dark", 8, 1);
        x.no("dark", -1, 1);
        x.due(Call.THROWS, "white", 8, 1);
        x.due(Call.THROWS, "white", -1, 1);
        x.due(0, "teach", 0);
        for (int k = 0; k < 8; k++) {
            x.due(256 * 10 / 200, "pack", 3 + k);
        }
    }

    /** Only dark 0 and white 255 even each value to itself. */
    private static void darkAndWhiteAtFirst() {
        for (int from = 0; from < 256; from += 16) {
            Run x = new Run(1);
            for (int i = 0; i < 16; i++) {
                x.showAll(from + i);
                x.due(i, "teach", 0);
                for (int k = 0; k < 8; k++) {
                    x.due(from + i, "pack", 3 + 9 * i + k);
                }
            }
        }
    }

    private static void valueAtFirst() {
        Run x = new Run(2);
        x.due(0, "teach", 1);
        x.packs(2, 1, 1, 0, 0, 0, 0, 0, 0, 0, 0, 4);
    }

    private static int evened(int dark, int white, int value) {
        Run x = new Run(1);
        x.yes("dark", 5, dark);
        x.yes("white", 5, white);
        x.yes("value", 5, value);
        x.due(0, "teach", 0);
        return (int) x.make("pack", 8);
    }

    private static void evenedAtLeast() {
        Due.is("value at dark", evened(100, 200, 100), 0);
        Due.is("value one below dark", evened(100, 200, 99), 0);
        Due.is("value far below dark", evened(254, 255, 0), 0);
        Due.is("the least above 0", evened(0, 255, 1), 1);
        Due.is("one above dark", evened(100, 200, 101), 2);
    }

    private static void evenedAtMost() {
        Due.is("value one below white", evened(0, 255, 254), 254);
        Due.is("value at white", evened(0, 255, 255), 255);
        Due.is("value at white, 256 times 100 over 100", evened(100, 200, 200), 255);
        Due.is("value one above white", evened(100, 200, 201), 255);
        Due.is("value far above white", evened(0, 1, 255), 255);
        Due.is("value twice white", evened(0, 100, 200), 255);
    }

    private static void evenedWithoutSpan() {
        Due.is("white one above dark, value at dark", evened(100, 101, 100), 0);
        Due.is("white one above dark, value at white", evened(100, 101, 101), 255);
        for (int value : new int[] {0, 99, 100, 101, 255}) {
            Due.is("white at dark, value " + value, evened(100, 100, value), 0);
            Due.is("white one below dark, value " + value, evened(101, 100, value), 0);
            Due.is("white far below dark, value " + value, evened(255, 0, value), 0);
        }
        Due.is("both 0", evened(0, 0, 255), 0);
        Due.is("both 255", evened(255, 255, 255), 0);
    }

    /** The greatest n of 0 .. 255 that n times the span does not bring above, told without a division. */
    private static int evenedSlowly(int dark, int white, int value) {
        int n = 0;
        while (white > dark && n < 255 && (n + 1) * (white - dark) <= 256 * (value - dark)) {
            n++;
        }
        return n;
    }

    /** Each pair of dark and white, with the values round them, one a channel. */
    private static void evenedDown() {
        Run x = new Run(1);
        int row = 0;
        for (int pair = 0; pair < 65536; pair++) {
            int dark = pair / 256;
            int white = pair % 256;
            int[] values = {0, dark - 1, dark, dark + 1, white - 1, white, white + 1, (dark + white) / 2};
            if (row == 15) {
                x = new Run(1);
                row = 0;
            }
            for (int k = 0; k < 8; k++) {
                values[k] = Math.max(0, Math.min(255, values[k]));
                x.yes("dark", k, dark);
                x.yes("white", k, white);
                x.yes("value", k, values[k]);
            }
            x.due(row, "teach", 0);
            for (int k = 0; k < 8; k++) {
                x.due(evenedSlowly(dark, white, values[k]), "pack", 3 + 9 * row + k);
            }
            row++;
        }
    }

    // ---- cells, sums, readings

    /** Shows a row that differs only between channels k and k + 1, by as much as told. */
    private static void step(Run x, int k, int by) {
        for (int c = 0; c < 8; c++) {
            boolean high = by > 0 ? c > k : c <= k;
            x.yes("value", c, high ? Math.abs(by) : 0);
        }
    }

    private static void cellsDown() {
        for (int k = 0; k < 7; k++) {
            for (int by = -255; by < 255; by++) {
                // a new cell begins at -192, -128, .., 192
                boolean begins = (by + 1) % 64 == 0;
                Run x = new Run(1);
                step(x, k, by);
                x.due(0, "teach", 0);
                step(x, k, by + 1);
                x.due(begins ? 6000 : 7000, "sum", 0);
            }
        }
    }

    private static void eightCells() {
        int[] first = {-255, -192, -128, -64, 0, 64, 128, 192};
        int[] last = {-193, -129, -65, -1, 63, 127, 191, 255};
        for (int k = 0; k < 7; k++) {
            Run x = new Run(1);
            for (int cell = 0; cell < 8; cell++) {
                step(x, k, first[cell]);
                x.due(cell, "teach", 0);
            }
            for (int cell = 0; cell < 8; cell++) {
                step(x, k, last[cell]);
                x.due(6000 + 125, "sum", 0);
            }
        }
    }

    private static void fortyRows() {
        Run x = new Run(2);
        for (int i = 0; i < 40; i++) {
            x.due(-2, "leftOut", i);
            x.due(i, "teach", i % 2);
        }
        x.none("teach", 0);
        x.none("teach", 1);
        x.due(-2, "leftOut", 40);
        x.due(0, "leftOut", 0);
        x.due(40, "pack", 1);
        x.due(39 % 2, "pack", 2 + 9 * 39);
        x.none("pack", 2 + 9 * 40 + 1);
    }

    /** One flat row among others of the kind: each of the seven parts goes down by itself. */
    private static void sumDown() {
        int[][] due = {{1, 7000, 0}, {2, 7 * 500, 7 * 500}, {3, 7 * 333, 7 * 666}, {6, 7 * 166, 7 * 833},
            {7, 7 * 142, 7 * 857}, {39, 7 * 25, 7 * 974}, {40, 7 * 25, 7 * 975}};
        for (int[] d : due) {
            Run x = new Run(2);
            x.show(Run.FLAT);
            x.due(0, "teach", 1);
            x.due(7000, "sum", 1);
            x.show(Run.UP_DOWN);
            for (int i = 1; i < d[0]; i++) {
                x.due(i, "teach", 1);
            }
            x.due(d[2], "sum", 1);
            x.show(Run.FLAT);
            x.due(d[1], "sum", 1);
            x.due(0, "sum", 0);
        }
    }

    private static void sumWithoutRows() {
        Run x = new Run(2);
        x.due(0, "sum", 0);
        x.due(0, "sum", 1);
        x.due(0, "teach", 1);
        x.due(0, "sum", 0);
        x.due(7000, "sum", 1);
        x.due(1, "correct", 0, 0);
        x.due(0, "sum", 1);
        x.due(7000, "sum", 0);
        // without its only row the kind has sum 0, which the bound 0 lets read as the least kind
        x.due(NONE, "leftOut", 0);
        x.yes("bound", 0);
        x.due(0, "leftOut", 0);
        x.yes("worth", 1, 1);
        x.due(1, "leftOut", 0);
        x.feedAll(Run.packed(2));
        x.due(0, "open");
        x.due(0, "sum", 0);
        x.due(0, "sum", 1);
    }

    /** 39 rows of one kind, one of them with one other cell, against one row of another kind. */
    private static void readsGreatestSum() {
        for (int great = 0; great < 2; great++) {
            int small = 1 - great;
            Run x = new Run(2);
            x.due(0, "teach", great);
            for (int i = 1; i < 39; i++) {
                x.due(i, "teach", small);
            }
            x.yes("value", 7, 255);
            x.due(39, "teach", small);
            x.yes("value", 7, 0);
            x.yes("worth", small, 1000000);
            x.due(7000, "sum", great);
            x.due(6974, "sum", small);
            x.due(great, "read");
        }
    }

    private static void readsGreatestWorth() {
        for (int a = 0; a < 4; a++) {
            Run x = new Run(4);
            for (int kind = 0; kind < 4; kind++) {
                x.due(kind, "teach", kind);
            }
            x.due(0, "read");
            x.yes("worth", a, 1);
            x.due(a, "read");
            for (int b = 0; b < 4; b++) {
                x.yes("worth", b, 2);
                x.due(b, "read");
                x.yes("worth", b, 1000000);
                x.due(b, "read");
                x.yes("worth", a, 999999);
                x.due(a == b ? a : b, "read");
                x.yes("worth", b, 0);
                x.yes("worth", a, 1);
                x.due(a, "read");
            }
        }
    }

    private static void readsLeast() {
        Run x = new Run(4);
        for (int kind = 3; kind >= 0; kind--) {
            x.due(3 - kind, "teach", kind);
            x.due(kind, "read");
        }
        x.yes("worth", 3, 5);
        x.due(3, "read");
        x.yes("worth", 2, 5);
        x.due(2, "read");
        x.yes("worth", 1, 5);
        x.due(1, "read");
        x.yes("worth", 0, 5);
        x.due(0, "read");
    }

    private static void unknownBelowBound() {
        Run x = new Run(2);
        x.due(0, "teach", 1);
        x.yes("value", 7, 255);
        x.due(6000, "sum", 1);
        int[][] due = {{5999, 1}, {6000, 1}, {6001, NONE}, {10000, NONE}, {1, 1}, {0, 1}};
        for (int[] d : due) {
            x.yes("bound", d[0]);
            x.due(d[1], "read");
        }
        x.show(Run.UP_DOWN);
        x.due(0, "sum", 1);
        x.due(0, "read");
        x.yes("bound", 1);
        x.none("read");
    }

    /** The least sum above 0 is 25: one cell of one row in forty. */
    private static void boundAtFirst() {
        Run x = new Run(1);
        x.none("read");
        x.show(Run.UP_DOWN);
        for (int i = 0; i < 39; i++) {
            x.due(i, "teach", 0);
        }
        x.show(Run.FLAT);
        x.due(0, "sum", 0);
        x.none("read");
        x.show(0, 255, 0, 255, 0, 255, 0, 0);
        x.due(39, "teach", 0);
        x.show(Run.FLAT);
        x.due(25, "sum", 0);
        x.due(0, "read");
    }

    // ---- pixels and pieces

    private static void places() {
        Run x = new Run(1);
        x.teachAll();
        for (int i = 0; i < 16; i++) {
            x.yes("pixel", i, 0);
            x.yes("pixel", i, 15);
        }
        for (int i = 1; i < 15; i++) {
            x.yes("pixel", 0, i);
            x.yes("pixel", 15, i);
        }
        for (int side : Run.NO_SIDES) {
            for (int good : new int[] {0, 7, 15}) {
                x.no("pixel", side, good);
                x.no("pixel", good, side);
                x.none("piece", side, good);
                x.none("piece", good, side);
            }
            x.no("pixel", side, side);
            x.none("piece", side, side);
        }
        for (int i = 0; i < 16; i++) {
            x.due(0, "piece", i, 0);
            x.due(0, "piece", 15, i);
        }
    }

    private static void toldOnce() {
        Run x = new Run(2);
        x.teachAll();
        x.pixels(0, 0, 0, 15, 15, 3, 4);
        x.unknownPixels(4, 3);
        x.show(Run.ROWS[1]);
        x.no("pixel", 0, 0);
        x.no("pixel", 15, 15);
        x.no("pixel", 3, 4);
        x.no("pixel", 4, 3);
        x.due(0, "pieceKind", 0);
        x.due(0, "pieceKind", 1);
        x.due(0, "pieceKind", 2);
        x.none("piece", 4, 3);
    }

    private static void hundredPixels() {
        for (int unknown : new int[] {0, 1, 50, 100}) {
            Run x = new Run(1);
            if (unknown < 100) {
                x.yes("bound", 10000);
            }
            for (int i = 0; i < 100; i++) {
                if (i == unknown) {
                    x.yes("bound", 1);
                    x.due(0, "teach", 0);
                }
                x.yes("pixel", i % 16, i / 16);
            }
            for (int i = 100; i < 256; i++) {
                x.no("pixel", i % 16, i / 16);
            }
            x.none("piece", 4, 6);
            x.due(unknown < 100 ? 0 : NONE, "piece", 3, 6);
            x.due(unknown == 0 ? 0 : NONE, "piece", 0, 0);
        }
    }

    private static void kindOfThen() {
        Run x = new Run(2);
        x.teachAll();
        x.pixels(0, 2, 2);
        x.unknownPixels(8, 8);
        x.show(Run.ROWS[1]);
        x.due(0, "pieceKind", 0);
        x.due(0, "correct", 0, 1);
        x.due(0, "pieceKind", 0);
        x.yes("worth", 1, 1000);
        x.due(0, "pieceKind", 0);
        x.feedAll(Run.packed(2));
        x.due(0, "open");
        x.due(0, "pieceKind", 0);
        x.yes("bound", 10000);
        x.due(0, "piece", 2, 2);
        x.yes("bound", 0);
        x.none("piece", 8, 8);
        x.none("pieceKind", 1);
    }

    private static void unknownInNoPiece() {
        Run x = new Run(1);
        x.teachAll();
        x.unknownPixels(0, 0, 5, 5);
        x.none("piece", 0, 0);
        x.none("pieceKind", 0);
        x.none("neighbours", 0);
        x.pixels(0, 4, 5, 6, 5, 1, 1);
        x.due(0, "piece", 1, 1);
        x.due(1, "piece", 4, 5);
        x.due(2, "piece", 6, 5);
        x.none("piece", 5, 5);
        x.due(0, "neighbours", 0);
        x.due(0, "neighbours", 1);
        x.none("pieceKind", 3);
    }

    /** Each two places of the belt, so that no end of a line meets the start of another. */
    private static void twoPlaces() {
        for (int a = 0; a < 256; a++) {
            for (int b = a + 1; b < 256; b++) {
                int across = Math.abs(a % 16 - b % 16);
                int along = b / 16 - a / 16;
                boolean joined = across + along == 1;
                boolean near = across <= 1 && along <= 1;
                Run x = new Run(1);
                x.due(0, "teach", 0);
                x.yes("pixel", b % 16, b / 16);
                x.yes("pixel", a % 16, a / 16);
                x.due(0, "piece", a % 16, a / 16);
                x.due(joined ? 0 : 1, "piece", b % 16, b / 16);
                x.due(!joined && near ? 1 : 0, "neighbours", 0);
                x.due(joined ? NONE : near ? 1 : 0, "neighbours", 1);
            }
        }
    }

    private static int apart(int a, int b) {
        return Math.abs(a % 16 - b % 16) + Math.abs(a / 16 - b / 16);
    }

    /** Each two places side by side with each third one. */
    private static void threePlaces() {
        for (int a = 0; a < 256; a++) {
            for (int b : new int[] {a + 1, a + 16}) {
                for (int c = 0; c < 256 && b < 256 && apart(a, b) == 1; c++) {
                    if (c != a && c != b) {
                        thirdPlace(a, b, c);
                    }
                }
            }
        }
    }

    private static void thirdPlace(int a, int b, int c) {
        boolean joined = apart(a, c) == 1 || apart(b, c) == 1;
        Run x = new Run(1);
        x.due(0, "teach", 0);
        for (int place : new int[] {a, b, c}) {
            x.yes("pixel", place % 16, place / 16);
        }
        int first = joined || a < c ? 0 : 1;
        x.due(first, "piece", a % 16, a / 16);
        x.due(first, "piece", b % 16, b / 16);
        x.due(joined ? 0 : 1 - first, "piece", c % 16, c / 16);
        x.due(joined ? NONE : 0, "pieceKind", 1);
    }

    /** A piece from the first line to the last, and a lone pixel above its end. */
    private static void lastAndFirstLine() {
        Run x = new Run(1);
        x.teachAll();
        for (int y = 0; y < 16; y++) {
            x.yes("pixel", 5, y);
        }
        x.pixels(0, 6, 15, 7, 15, 7, 0);
        x.due(0, "piece", 7, 15);
        x.due(1, "piece", 7, 0);
        x.due(0, "neighbours", 0);
        x.due(0, "neighbours", 1);
        Run z = new Run(1);
        z.teachAll();
        for (int column = 0; column < 16; column++) {
            z.yes("pixel", column, 5);
        }
        z.pixels(0, 15, 6, 15, 7, 0, 7);
        z.due(0, "piece", 15, 7);
        z.due(1, "piece", 0, 7);
        z.due(0, "neighbours", 0);
        z.due(0, "neighbours", 1);
    }

    /** A spiral of a hundred pixels, told from either end: each turn needs another side. */
    private static void winding() {
        for (int turn = 0; turn < 2; turn++) {
            int[] spiral = spiral();
            Run x = new Run(1);
            x.teachAll();
            for (int i = 0; i < 100; i++) {
                int place = spiral[turn == 0 ? i : 99 - i];
                x.yes("pixel", place % 16, place / 16);
                x.none("pieceKind", 1);
            }
            for (int place : spiral) {
                x.due(0, "piece", place % 16, place / 16);
            }
        }
    }

    /** From a corner right, down, left, up and inward, always one place free between two turns. */
    private static int[] spiral() {
        boolean[] taken = new boolean[256];
        int[] places = new int[100];
        int[][] ways = {{1, 0}, {0, 1}, {-1, 0}, {0, -1}};
        int x = 0;
        int y = 0;
        int way = 0;
        for (int i = 0; i < 100; i++) {
            places[i] = 16 * y + x;
            taken[places[i]] = true;
            if (!free(taken, x, y, ways[way])) {
                way = (way + 1) % 4;
            }
            x += ways[way][0];
            y += ways[way][1];
        }
        return places;
    }

    /** Whether the next place is on the belt and the one behind it not of the spiral. */
    private static boolean free(boolean[] taken, int x, int y, int[] way) {
        int x1 = x + way[0];
        int y1 = y + way[1];
        if (x1 < 0 || x1 > 15 || y1 < 0 || y1 > 15) {
            return false;
        }
        int x2 = x1 + way[0];
        int y2 = y1 + way[1];
        return x2 < 0 || x2 > 15 || y2 < 0 || y2 > 15 || !taken[16 * y2 + x2];
    }

    private static void whateverKinds() {
        Run x = new Run(4);
        x.teachAll();
        x.pixels(0, 7, 7);
        x.pixels(1, 8, 7);
        x.pixels(2, 8, 8);
        x.pixels(3, 8, 9);
        for (int[] place : new int[][] {{7, 7}, {8, 7}, {8, 8}, {8, 9}}) {
            x.due(0, "piece", place[0], place[1]);
        }
        x.none("pieceKind", 1);
        x.due(0, "neighbours", 0);
    }

    private static void numbered() {
        Run x = new Run(1);
        x.teachAll();
        // a place of less x comes behind one of less y
        x.pixels(0, 0, 3, 15, 2, 14, 4, 9, 4);
        x.due(0, "piece", 15, 2);
        x.due(1, "piece", 0, 3);
        x.due(2, "piece", 9, 4);
        x.due(3, "piece", 14, 4);
        // the first pixel of a piece may be told last
        x.pixels(0, 14, 3, 14, 2);
        x.due(0, "piece", 14, 4);
        x.due(0, "piece", 15, 2);
        x.due(1, "piece", 0, 3);
        x.due(2, "piece", 9, 4);
        x.none("pieceKind", 3);
        x.pixels(0, 0, 0);
        x.due(0, "piece", 0, 0);
        x.due(1, "piece", 14, 4);
        x.due(2, "piece", 0, 3);
        x.due(3, "piece", 9, 4);
        // a piece is numbered by its first pixel and not by its leftmost
        x.pixels(0, 9, 5, 8, 5, 7, 5, 6, 5, 5, 5, 6, 4);
        x.due(3, "piece", 9, 4);
        x.due(3, "piece", 6, 4);
    }

    private static void mostPixels() {
        Run x = new Run(3);
        x.teachAll();
        x.yes("worth", 0, 1000000);
        x.pixels(0, 0, 0);
        x.due(0, "pieceKind", 0);
        x.pixels(2, 1, 0);
        x.due(0, "pieceKind", 0);
        x.pixels(2, 2, 0);
        x.due(2, "pieceKind", 0);
        x.pixels(0, 3, 0, 4, 0);
        x.due(0, "pieceKind", 0);
        // what other pieces are is nothing to this one
        x.pixels(1, 0, 5, 1, 5, 2, 5, 3, 5, 4, 5, 5, 5);
        x.due(0, "pieceKind", 0);
        x.due(1, "pieceKind", 1);
    }

    private static void pieceGreatestWorth() {
        for (int a = 0; a < 4; a++) {
            for (int b = 0; b < 4; b++) {
                if (a == b) {
                    continue;
                }
                Run x = new Run(4);
                x.teachAll();
                x.pixels(a, 0, 0, 1, 0);
                x.pixels(b, 2, 0, 3, 0);
                for (int kind = 0; kind < 4; kind++) {
                    x.yes("worth", kind, kind == a ? 6 : kind == b ? 5 : 1000000);
                }
                x.due(a, "pieceKind", 0);
                x.yes("worth", b, 7);
                x.due(b, "pieceKind", 0);
            }
        }
    }

    private static void pieceLeast() {
        for (long worth : new long[] {0, 5, 1000000}) {
            Run x = new Run(4);
            x.teachAll();
            for (int kind = 0; kind < 4; kind++) {
                x.yes("worth", kind, worth);
            }
            for (int kind = 3; kind >= 0; kind--) {
                x.pixels(kind, kind, 9);
                // the pixels go from the right, so that they hang together
                x.due(kind, "pieceKind", 0);
            }
            x.none("pieceKind", 1);
        }
    }

    private static void neighboursArePieces() {
        Run x = new Run(2);
        x.teachAll();
        x.pixels(0, 7, 7);
        x.due(0, "neighbours", 0);
        x.pixels(1, 6, 6, 8, 6, 6, 8, 8, 8);
        x.due(2, "piece", 7, 7);
        x.due(4, "neighbours", 2);
        x.due(1, "neighbours", 0);
        // two of the four become one piece, which counts once
        x.pixels(0, 5, 6, 5, 7, 5, 8);
        x.due(2, "piece", 7, 7);
        x.due(3, "neighbours", 2);
        x.due(1, "neighbours", 0);
        x.unknownPixels(7, 6);
        x.due(3, "neighbours", 2);
        // a piece that hangs together with all of them is alone
        x.pixels(0, 6, 7, 8, 7);
        x.due(0, "neighbours", 0);
        x.none("neighbours", 1);
    }

    // ---- packed rows

    private static void rest() {
        int[][] due = {{252, 254}, {253, 255}, {254, 0}, {255, 1}};
        for (int[] d : due) {
            Run x = new Run(1);
            x.yes("value", 3, d[0]);
            x.due(0, "teach", 0);
            x.packs(1, 1, 0, 0, 0, 0, d[0], 0, 0, 0, 0, d[1]);
        }
        for (int kinds = 1; kinds <= 4; kinds++) {
            new Run(kinds).packs(kinds, 0, kinds);
        }
        Run full = new Run(4);
        full.showAll(255);
        int sum = 4 + 40;
        for (int i = 0; i < 40; i++) {
            full.due(i, "teach", 3);
            sum += 3 + 8 * 255;
        }
        full.due(sum % 256, "pack", 362);
        full.none("pack", 363);
    }
}
