import java.util.Arrays;

/** The boundary cases that the promises name, sentence by sentence, each with a test of its own. */
public final class EdgeTests {
    private static final int NONE = SpectrumHeads.NONE;
    private static final int LEAST = Integer.MIN_VALUE;
    private static final int MOST = Integer.MAX_VALUE;

    public static void main(String[] args) {
        channels();
        teaching();
        belt();
        packing();
        Due.end();
    }

    private static void channels() {
        Due.sentence("1 kinds of 1 .. 4 (of another number 1)", EdgeTests::newKinds);
        Due.sentence("1 nothing taught", EdgeTests::newNothingTaught);
        Due.sentence("1 no pixels", EdgeTests::newNoPixels);
        Due.sentence("1 nothing fed", EdgeTests::newNothingFed);
        Due.sentence("2 white: true; false when v is not 0 .. 255", EdgeTests::whiteValues);
        Due.sentence("2 white: ArrayIndexOutOfBoundsException: there is no such channel", EdgeTests::whiteChannels);
        Due.sentence("3 dark: likewise (true; false when v is not 0 .. 255)", EdgeTests::darkValues);
        Due.sentence("3 dark: false when there is no such channel", EdgeTests::darkChannels);
        Due.sentence("4 value: false when there is none such", EdgeTests::valueChannels);
        Due.sentence("4 value: false when v is not 0 .. 255", EdgeTests::valueValues);
        Due.sentence("5 reference: false when there is none such", EdgeTests::referenceChannels);
        Due.sentence("5 reference: v (0 .. 255)", EdgeTests::referenceValues);
        Due.sentence("5 reference: false when the tick is not greater than the one before", EdgeTests::referenceTicks);
        Due.sentence("5 reference: the one before of any channel", EdgeTests::referenceAnyChannel);
        Due.sentence("5 reference: 0 at first", EdgeTests::referenceAtFirst);
    }

    private static void teaching() {
        Due.sentence("6 teach: NONE when there is no such kind", EdgeTests::teachKinds);
        Due.sentence("6 teach: its number; NONE when there are 40", EdgeTests::teachForty);
        Due.sentence("7 read: NONE for unknown", EdgeTests::readUnknown);
        Due.sentence("8 sum: NONE when there is none such", EdgeTests::sumKinds);
        Due.sentence("9 bound: 0 .. 10000; false when it is not such", EdgeTests::boundEdges);
        Due.sentence("10 worth: a kind's worth, true or false", EdgeTests::worthKinds);
        Due.sentence("10 worth: 0 .. 1000000, true or false", EdgeTests::worthEdges);
        Due.sentence("11 leftOut: NONE for unknown", EdgeTests::leftOutUnknown);
        Due.sentence("11 leftOut: -2 when there is none such", EdgeTests::leftOutRows);
        Due.sentence("12 wrong: or as unknown, told as NONE", EdgeTests::wrongUnknown);
        Due.sentence("12 wrong: NONE when there are none such", EdgeTests::wrongKinds);
        Due.sentence("13 correct: of another kind (or the same); its kind before", EdgeTests::correctKinds);
        Due.sentence("13 correct: NONE when there are none such", EdgeTests::correctNoneSuch);
    }

    private static void belt() {
        Due.sentence("14 pixel: false when the place is not such", EdgeTests::pixelPlaces);
        Due.sentence("14 pixel: false when it was told", EdgeTests::pixelTold);
        Due.sentence("14 pixel: false when there are 100", EdgeTests::pixelHundred);
        Due.sentence("15 piece: NONE when there is no such pixel", EdgeTests::pieceNoPixel);
        Due.sentence("15 piece: NONE when it is in none", EdgeTests::pieceInNone);
        Due.sentence("16 pieceKind: NONE when there is none such", EdgeTests::pieceKindNone);
        Due.sentence("17 neighbours: NONE when there is none such", EdgeTests::neighboursNone);
    }

    private static void packing() {
        Due.sentence("18 pack: NONE when there is none such", EdgeTests::packNone);
        Due.sentence("19 feed: one more byte (0 .. 255); false when it is not such", EdgeTests::feedBytes);
        Due.sentence("19 feed: false when there are 400", EdgeTests::feedFull);
        Due.sentence("20 open: nothing is fed then", EdgeTests::openForgets);
        Due.sentence("20 open: with this K", EdgeTests::openKinds);
        Due.sentence("20 open: kinds below it", EdgeTests::openKindsBelow);
        Due.sentence("20 open: at most 40 rows", EdgeTests::openForty);
        Due.sentence("20 open: and nothing more", EdgeTests::openNothingMore);
        Due.sentence("20 open: packed rows (too short)", EdgeTests::openTooShort);
        Due.sentence("20 open: packed rows (the rest by 256)", EdgeTests::openRest);
        Due.sentence("20 open: how many rows there are then", EdgeTests::openAnswers);
        Due.sentence("20 open: these are the taught rows (and all else stays)", EdgeTests::openElseStays);
        Due.sentence("20 open: NONE when it is not such (taught rows stay)", EdgeTests::openRowsStay);
    }

    // ---- promise 1

    private static void newKinds() {
        int[][] due = {{1, 1}, {2, 2}, {3, 3}, {4, 4}, {0, 1}, {5, 1}, {-1, 1}, {-4, 1}, {256, 1}, {258, 1},
            {65538, 1}, {LEAST, 1}, {MOST, 1}};
        for (int[] d : due) {
            Run x = new Run(d[0]);
            x.due(d[1], "pack", 0);
            x.due(0, "sum", d[1] - 1);
            x.none("sum", d[1]);
            x.due(0, "teach", d[1] - 1);
            x.none("teach", d[1]);
            x.yes("worth", d[1] - 1, 1);
            x.no("worth", d[1], 1);
            x.due(d[1] - 1, "read");
        }
    }

    private static void newNothingTaught() {
        for (int kinds = 1; kinds <= 4; kinds++) {
            Run x = new Run(kinds);
            x.packs(kinds, 0, kinds);
            x.due(-2, "leftOut", 0);
            x.none("correct", 0, 0);
            x.due(0, "wrong", 0, 0);
            x.due(0, "wrong", 0, NONE);
            x.none("read");
            x.due(0, "teach", 0);
        }
    }

    private static void newNoPixels() {
        Run x = new Run(2);
        for (int place = 0; place < 256; place++) {
            x.none("piece", place % 16, place / 16);
        }
        x.none("pieceKind", 0);
        x.none("neighbours", 0);
        for (int i = 0; i < 100; i++) {
            x.yes("pixel", i % 16, i / 16);
        }
        x.no("pixel", 15, 15);
    }

    private static void newNothingFed() {
        Run x = new Run(2);
        x.none("open");
        Run y = new Run(2);
        y.feedAll(2, 0, 2);
        y.due(0, "open");
        Run z = new Run(2);
        for (int i = 0; i < 400; i++) {
            z.yes("feed", 255);
        }
        z.no("feed", 255);
    }

    // ---- promises 2 to 5

    /** White shows as the evened number of value 50. */
    private static void whiteValues() {
        for (int k = 0; k < 8; k++) {
            Run x = new Run(1);
            x.showAll(50);
            x.yes("white", k, 100);
            for (int v : Run.NO_BYTES) {
                x.no("white", k, v);
            }
            x.due(0, "teach", 0);
            x.due(128, "pack", 3 + k);
            x.yes("white", k, 255);
            x.due(1, "teach", 0);
            x.due(50, "pack", 12 + k);
            x.yes("white", k, 0);
            x.due(2, "teach", 0);
            x.due(0, "pack", 21 + k);
            x.yes("white", k, 254);
            x.yes("white", k, 1);
            x.due(3, "teach", 0);
            x.due(255, "pack", 30 + k);
            for (int other = 0; other < 8; other++) {
                x.due(other == k ? 255 : 50, "pack", 30 + other);
            }
        }
    }

    private static void whiteChannels() {
        Run x = new Run(1);
        x.showAll(50);
        x.yes("white", 0, 100);
        x.yes("white", 7, 200);
        for (int k : Run.NO_CHANNELS) {
            for (int v : new int[] {0, 1, 150, 255}) {
                x.due(Call.THROWS, "white", k, v);
            }
            // the document's throw has no condition beside it, so it comes before the answer false
            for (int v : Run.NO_BYTES) {
                x.due(Call.THROWS, "white", k, v);
            }
        }
        x.due(0, "teach", 0);
        x.packs(Run.packed(1, 0, 128, 50, 50, 50, 50, 50, 50, 64));
    }

    /** Dark shows as the evened number of value 128. */
    private static void darkValues() {
        for (int k = 0; k < 8; k++) {
            Run x = new Run(1);
            x.showAll(128);
            x.yes("dark", k, 1);
            for (int v : Run.NO_BYTES) {
                x.no("dark", k, v);
            }
            x.due(0, "teach", 0);
            x.due(127 * 256 / 254, "pack", 3 + k);
            x.yes("dark", k, 0);
            x.due(1, "teach", 0);
            x.due(128, "pack", 12 + k);
            x.yes("dark", k, 127);
            x.due(2, "teach", 0);
            x.due(256 / 128, "pack", 21 + k);
            x.yes("dark", k, 254);
            x.yes("dark", k, 255);
            x.yes("value", k, 255);
            x.due(3, "teach", 0);
            for (int other = 0; other < 8; other++) {
                x.due(other == k ? 0 : 128, "pack", 30 + other);
            }
        }
    }

    private static void darkChannels() {
        Run x = new Run(1);
        x.showAll(128);
        x.yes("dark", 0, 1);
        x.yes("dark", 7, 128);
        for (int k : Run.NO_CHANNELS) {
            for (int v : new int[] {-1, 0, 1, 100, 255, 256, LEAST, MOST}) {
                x.no("dark", k, v);
            }
        }
        x.due(0, "teach", 0);
        x.packs(Run.packed(1, 0, 128, 128, 128, 128, 128, 128, 128, 0));
    }

    private static void valueChannels() {
        Run x = new Run(1);
        x.show(1, 2, 3, 4, 5, 6, 7, 8);
        for (int k : Run.NO_CHANNELS) {
            for (int v : new int[] {-1, 0, 1, 100, 255, 256, LEAST, MOST}) {
                x.no("value", k, v);
            }
        }
        x.due(0, "teach", 0);
        x.packs(Run.packed(1, 0, 1, 2, 3, 4, 5, 6, 7, 8));
    }

    private static void valueValues() {
        for (int k = 0; k < 8; k++) {
            Run x = new Run(1);
            x.yes("value", k, 77);
            for (int v : Run.NO_BYTES) {
                x.no("value", k, v);
            }
            x.due(0, "teach", 0);
            x.due(77, "pack", 3 + k);
            int[] good = {0, 1, 254, 255};
            for (int i = 0; i < good.length; i++) {
                x.yes("value", k, good[i]);
                x.due(1 + i, "teach", 0);
                x.due(good[i], "pack", 12 + 9 * i + k);
            }
        }
    }

    private static void referenceChannels() {
        Run x = new Run(1);
        x.showAll(50);
        x.yes("reference", 0, 100, 1);
        x.yes("reference", 7, 200, 2);
        for (int k : Run.NO_CHANNELS) {
            x.no("reference", k, 150, 3);
            x.no("reference", k, 150, Long.MAX_VALUE);
            x.no("reference", k, 256, 3);
        }
        x.due(0, "teach", 0);
        x.packs(Run.packed(1, 0, 128, 50, 50, 50, 50, 50, 50, 64));
        x.yes("reference", 0, 200, 3);
    }

    private static void referenceValues() {
        for (int k = 0; k < 8; k++) {
            Run x = new Run(1);
            x.showAll(50);
            x.yes("reference", k, 100, 1);
            for (int v : Run.NO_BYTES) {
                x.no("reference", k, v, 2);
                x.no("reference", k, v, Long.MAX_VALUE);
            }
            x.due(0, "teach", 0);
            x.due(128, "pack", 3 + k);
            x.yes("reference", k, 255, 2);
            x.due(1, "teach", 0);
            x.due(50, "pack", 12 + k);
            x.yes("reference", k, 0, 3);
            x.due(2, "teach", 0);
            x.due(0, "pack", 21 + k);
            x.yes("reference", k, 1, 4);
            x.due(3, "teach", 0);
            x.due(255, "pack", 30 + k);
        }
    }

    private static void referenceTicks() {
        Run x = new Run(1);
        x.showAll(50);
        x.yes("reference", 0, 100, 10);
        for (long tick : new long[] {10, 9, 1, 0, -1, -10, -11, Long.MIN_VALUE, Long.MIN_VALUE + 1}) {
            x.no("reference", 0, 200, tick);
        }
        x.due(0, "teach", 0);
        x.due(128, "pack", 3);
        x.yes("reference", 0, 200, 11);
        x.due(1, "teach", 0);
        x.due(64, "pack", 12);
        long[] rising = {Integer.MAX_VALUE - 1L, Integer.MAX_VALUE, Integer.MAX_VALUE + 1L, (1L << 32) + 5,
            Long.MAX_VALUE - 1, Long.MAX_VALUE};
        for (long tick : rising) {
            x.yes("reference", 0, 100, tick);
            x.no("reference", 0, 200, tick);
            x.no("reference", 0, 200, tick - 1);
        }
        // no tick is greater than the greatest: the next one wraps around to the least
        x.no("reference", 0, 200, Long.MAX_VALUE + 1);
        x.due(2, "teach", 0);
        x.due(128, "pack", 21);
        // a white without a tick is still taken, and needs none
        x.yes("white", 0, 200);
        x.due(3, "teach", 0);
        x.due(64, "pack", 30);
    }

    private static void referenceAnyChannel() {
        for (int k = 0; k < 8; k++) {
            Run x = new Run(1);
            x.showAll(50);
            x.yes("reference", k, 200, 5);
            for (int other = 0; other < 8; other++) {
                x.no("reference", other, 100, 5);
                x.no("reference", other, 100, 4);
            }
            for (int other = 0; other < 8; other++) {
                x.yes("reference", other, 100, 6 + other);
                x.no("reference", k, 200, 6 + other);
            }
            x.due(0, "teach", 0);
            x.packs(Run.packed(1, 0, 128, 128, 128, 128, 128, 128, 128, 128));
        }
    }

    private static void referenceAtFirst() {
        for (int k = 0; k < 8; k++) {
            Run x = new Run(1);
            x.showAll(50);
            x.no("reference", k, 100, 0);
            x.no("reference", k, 100, -1);
            x.no("reference", k, 100, Long.MIN_VALUE);
            x.due(0, "teach", 0);
            x.due(50, "pack", 3 + k);
            x.yes("reference", k, 100, 1);
            x.due(1, "teach", 0);
            x.due(128, "pack", 12 + k);
        }
        Run y = new Run(1);
        y.yes("reference", 3, 100, Long.MAX_VALUE);
    }

    // ---- promises 6 to 10

    private static int[] noKinds(int kinds) {
        return new int[] {-1, -2, kinds, kinds + 1, -kinds, 256, LEAST, MOST};
    }

    private static void teachKinds() {
        for (int kinds = 1; kinds <= 4; kinds++) {
            Run x = new Run(kinds);
            x.show(1, 2, 3, 4, 5, 6, 7, 8);
            for (int kind : noKinds(kinds)) {
                x.none("teach", kind);
            }
            x.packs(kinds, 0, kinds);
            x.due(0, "teach", 0);
            x.due(1, "teach", kinds - 1);
            x.none("teach", kinds);
            x.packs(Run.packed(kinds, 0, 1, 2, 3, 4, 5, 6, 7, 8, kinds - 1, 1, 2, 3, 4, 5, 6, 7, 8));
        }
    }

    private static void teachForty() {
        Run x = new Run(2);
        for (int i = 0; i < 40; i++) {
            x.yes("value", 0, i);
            x.due(i, "teach", i % 2);
        }
        x.yes("value", 0, 200);
        for (int kind : new int[] {0, 1, -1, 2, LEAST, MOST}) {
            x.none("teach", kind);
        }
        x.due(40, "pack", 1);
        for (int i = 0; i < 40; i++) {
            x.due(i % 2, "pack", 2 + 9 * i);
            x.due(i, "pack", 3 + 9 * i);
        }
        // with fewer rows there is room again
        x.feedAll(2, 0, 2);
        x.due(0, "open");
        x.due(0, "teach", 1);
    }

    private static void readUnknown() {
        for (int kinds = 1; kinds <= 4; kinds++) {
            Run x = new Run(kinds);
            x.none("read");
            x.due(0, "teach", kinds - 1);
            x.due(kinds - 1, "read");
            x.yes("bound", 7000);
            x.due(kinds - 1, "read");
            x.yes("bound", 7001);
            x.none("read");
            x.yes("bound", 1);
            x.show(Run.UP_DOWN);
            x.none("read");
            x.yes("bound", 0);
            x.due(0, "read");
        }
    }

    private static void sumKinds() {
        for (int kinds = 1; kinds <= 4; kinds++) {
            Run x = new Run(kinds);
            for (int kind : noKinds(kinds)) {
                x.none("sum", kind);
            }
            x.due(0, "sum", 0);
            x.due(0, "sum", kinds - 1);
            x.due(0, "teach", kinds - 1);
            x.due(7000, "sum", kinds - 1);
            for (int kind : noKinds(kinds)) {
                x.none("sum", kind);
            }
        }
    }

    private static void boundEdges() {
        long[] wrong = {-1, 10001, -10000, 65536, 1L << 32, (1L << 32) + 7001, Integer.MIN_VALUE, Integer.MAX_VALUE,
            Long.MIN_VALUE, Long.MAX_VALUE};
        Run x = new Run(1);
        x.yes("bound", 7000);
        x.due(0, "teach", 0);
        for (long v : wrong) {
            x.no("bound", v);
            x.due(0, "read");
        }
        x.yes("bound", 7001);
        for (long v : wrong) {
            x.no("bound", v);
            x.none("read");
        }
        x.yes("bound", 0);
        x.show(Run.UP_DOWN);
        x.due(0, "read");
        x.yes("bound", 1);
        x.none("read");
        x.show(Run.FLAT);
        x.due(0, "read");
        x.yes("bound", 9999);
        x.none("read");
        x.yes("bound", 10000);
        x.none("read");
    }

    private static void worthKinds() {
        for (int kinds = 1; kinds <= 4; kinds++) {
            Run x = new Run(kinds);
            x.yes("bound", 0);
            for (int kind : noKinds(kinds)) {
                x.no("worth", kind, 0);
                x.no("worth", kind, 1);
                x.no("worth", kind, 1000000);
                x.no("worth", kind, 1000001);
            }
            x.due(0, "read");
            x.yes("worth", 0, 1);
            x.due(0, "read");
            x.yes("worth", kinds - 1, 2);
            x.due(kinds - 1, "read");
        }
    }

    /** With the bound 0 and nothing taught, the greatest worth reads. */
    private static void worthEdges() {
        long[] wrong = {-1, 1000001, -1000000, 1L << 32, (1L << 32) + 6, Integer.MIN_VALUE, Integer.MAX_VALUE,
            Long.MIN_VALUE, Long.MAX_VALUE};
        for (int kind = 0; kind < 3; kind++) {
            int other = (kind + 1) % 3;
            int least = Math.min(kind, other);
            Run x = new Run(3);
            x.yes("bound", 0);
            x.yes("worth", kind, 5);
            for (long v : wrong) {
                x.no("worth", kind, v);
                // still 5: neither less nor more
                x.yes("worth", other, 4);
                x.due(kind, "read");
                x.yes("worth", other, 5);
                x.due(least, "read");
                x.yes("worth", other, 6);
                x.due(other, "read");
            }
            x.yes("worth", kind, 1000000);
            x.due(kind, "read");
            x.yes("worth", other, 999999);
            x.due(kind, "read");
            x.yes("worth", other, 1000000);
            x.due(least, "read");
            x.yes("worth", kind, 1);
            x.yes("worth", other, 0);
            x.due(kind, "read");
            x.yes("worth", kind, 0);
            x.due(0, "read");
        }
    }

    // ---- promises 11 to 13

    private static void leftOutUnknown() {
        Run x = new Run(2);
        x.due(0, "teach", 0);
        x.none("leftOut", 0);
        x.due(0, "read");
        x.show(Run.UP_DOWN);
        x.due(1, "teach", 1);
        x.none("leftOut", 0);
        x.none("leftOut", 1);
        x.show(Run.FLAT);
        x.due(2, "teach", 1);
        // of two rows of kind 1, one is row 0's twin
        x.due(1, "leftOut", 0);
        x.yes("bound", 3500);
        x.due(1, "leftOut", 0);
        x.yes("bound", 3501);
        x.none("leftOut", 0);
        x.yes("bound", 7000);
        x.due(0, "leftOut", 2);
        x.yes("bound", 7001);
        x.none("leftOut", 2);
        x.yes("bound", 0);
        x.due(0, "leftOut", 1);
    }

    private static void leftOutRows() {
        Run x = new Run(1);
        int[] never = {-1, -2, 40, 41, 256, LEAST, MOST};
        for (int rows = 0; rows <= 40; rows++) {
            if (rows > 0) {
                x.due(rows - 1, "teach", 0);
                x.due(rows == 1 ? NONE : 0, "leftOut", 0);
                x.due(rows == 1 ? NONE : 0, "leftOut", rows - 1);
            }
            x.due(-2, "leftOut", rows);
            for (int row : never) {
                x.due(-2, "leftOut", row);
            }
        }
        x.feedAll(Run.packed(1, 0, 0, 0, 0, 0, 0, 0, 0, 0));
        x.due(1, "open");
        x.none("leftOut", 0);
        x.due(-2, "leftOut", 1);
    }

    private static void wrongUnknown() {
        Run x = new Run(3);
        x.due(0, "wrong", 0, NONE);
        x.show(Run.FLAT);
        x.due(0, "teach", 0);
        x.due(1, "wrong", 0, NONE);
        x.due(0, "wrong", 1, NONE);
        x.show(Run.UP_DOWN);
        x.due(1, "teach", 0);
        x.due(2, "wrong", 0, NONE);
        x.due(0, "wrong", 0, 0);
        x.due(2, "teach", 2);
        // row 1 has a twin in kind 2 now, row 2 one in half of kind 0
        x.due(1, "wrong", 0, NONE);
        x.due(1, "wrong", 0, 2);
        x.due(0, "wrong", 0, 1);
        x.due(1, "wrong", 2, 0);
        x.due(0, "wrong", 2, NONE);
        x.yes("bound", 3501);
        x.due(1, "wrong", 2, NONE);
        x.due(0, "wrong", 2, 0);
        x.due(1, "wrong", 0, 2);
        x.yes("bound", 7001);
        x.due(2, "wrong", 0, NONE);
        x.due(0, "wrong", 0, 2);
        x.yes("bound", 0);
        x.due(0, "wrong", 0, NONE);
        x.due(1, "wrong", 0, 0);
        Run full = new Run(1);
        for (int i = 0; i < 40; i++) {
            full.due(i, "teach", 0);
        }
        full.due(40, "wrong", 0, 0);
        full.due(0, "wrong", 0, NONE);
        full.yes("bound", 7001);
        full.due(0, "wrong", 0, 0);
        full.due(40, "wrong", 0, NONE);
    }

    private static void wrongKinds() {
        for (int kinds = 1; kinds <= 4; kinds++) {
            Run x = new Run(kinds);
            x.due(0, "teach", 0);
            x.due(1, "teach", 0);
            for (int kind : noKinds(kinds)) {
                x.none("wrong", kind, 0);
                x.none("wrong", kind, NONE);
                x.none("wrong", kind, kind);
                if (kind != NONE) {
                    x.none("wrong", 0, kind);
                    x.none("wrong", kinds - 1, kind);
                }
            }
            x.due(2, "wrong", 0, 0);
            x.due(0, "wrong", 0, NONE);
            x.due(kinds == 1 ? 2 : 0, "wrong", kinds - 1, 0);
            x.due(kinds == 1 ? 2 : 0, "wrong", 0, kinds - 1);
            x.due(kinds == 1 ? 2 : 0, "wrong", kinds - 1, kinds - 1);
        }
    }

    private static void correctKinds() {
        for (int kinds = 1; kinds <= 4; kinds++) {
            Run x = new Run(kinds);
            x.show(1, 2, 3, 4, 5, 6, 7, 8);
            for (int i = 0; i < 40; i++) {
                x.due(i, "teach", 0);
            }
            for (int row : new int[] {0, 1, 39}) {
                x.due(0, "correct", row, 0);
                x.due(0, "correct", row, kinds - 1);
                x.due(kinds - 1, "pack", 2 + 9 * row);
                x.due(kinds - 1, "correct", row, kinds - 1);
                x.due(kinds - 1, "correct", row, 0);
                x.due(0, "pack", 2 + 9 * row);
                x.due(1, "pack", 3 + 9 * row);
                x.due(8, "pack", 10 + 9 * row);
            }
            x.due(40, "pack", 1);
            x.due(7000, "sum", 0);
        }
    }

    private static void correctNoneSuch() {
        for (int kinds = 1; kinds <= 4; kinds++) {
            Run x = new Run(kinds);
            x.none("correct", 0, 0);
            x.due(0, "teach", kinds - 1);
            x.due(1, "teach", 0);
            for (int row : new int[] {-1, -2, 2, 3, 40, 256, LEAST, MOST}) {
                x.none("correct", row, 0);
                x.none("correct", row, kinds - 1);
                x.none("correct", row, kinds);
            }
            for (int kind : noKinds(kinds)) {
                x.none("correct", 0, kind);
                x.none("correct", 1, kind);
            }
            x.packs(Run.packed(kinds, kinds - 1, 0, 0, 0, 0, 0, 0, 0, 0, 0, 0, 0, 0, 0, 0, 0, 0, 0));
            x.due(kinds - 1, "correct", 0, 0);
            x.due(0, "correct", 1, kinds - 1);
        }
    }

    // ---- promises 14 to 17

    private static void pixelPlaces() {
        Run x = new Run(1);
        x.teachAll();
        for (int side : Run.NO_SIDES) {
            for (int good : new int[] {0, 8, 15}) {
                x.no("pixel", side, good);
                x.no("pixel", good, side);
            }
            x.no("pixel", side, -1);
            x.no("pixel", side, 16);
        }
        x.none("pieceKind", 0);
        x.pixels(0, 0, 0, 15, 0, 0, 15, 15, 15);
        x.due(0, "piece", 0, 0);
        x.due(1, "piece", 15, 0);
        x.due(2, "piece", 0, 15);
        x.due(3, "piece", 15, 15);
        x.none("pieceKind", 4);
    }

    private static void pixelTold() {
        Run x = new Run(2);
        x.teachAll();
        x.pixels(1, 0, 0, 15, 15);
        x.unknownPixels(0, 15);
        x.show(Run.ROWS[0]);
        for (int i = 0; i < 3; i++) {
            x.no("pixel", 0, 0);
            x.no("pixel", 15, 15);
            x.no("pixel", 0, 15);
        }
        x.due(1, "pieceKind", 0);
        x.due(1, "pieceKind", 1);
        x.none("piece", 0, 15);
        // a place told again is not counted again
        for (int i = 0; i < 97; i++) {
            x.yes("pixel", i % 16, 2 + i / 16);
        }
        x.no("pixel", 3, 10);
    }

    private static void pixelHundred() {
        Run x = new Run(1);
        x.teachAll();
        for (int i = 0; i < 99; i++) {
            x.yes("pixel", i % 10, i / 10);
        }
        // neither a wrong place nor a told one is the hundredth
        x.no("pixel", -1, 0);
        x.no("pixel", 0, 16);
        x.no("pixel", 0, 0);
        x.none("piece", 9, 9);
        x.yes("pixel", 15, 15);
        x.due(1, "piece", 15, 15);
        x.no("pixel", 9, 9);
        x.no("pixel", 14, 15);
        x.no("pixel", 15, 15);
        x.no("pixel", 16, 16);
        x.none("piece", 9, 9);
        x.none("piece", 14, 15);
        x.none("pieceKind", 2);
        // nor does opening make room
        x.feedAll(1, 0, 1);
        x.due(0, "open");
        x.no("pixel", 9, 9);
    }

    private static void pieceNoPixel() {
        Run x = new Run(1);
        x.teachAll();
        x.none("piece", 0, 0);
        x.none("piece", 15, 15);
        x.pixels(0, 0, 0, 15, 15, 15, 0, 0, 15, 8, 8);
        for (int side : Run.NO_SIDES) {
            for (int good : new int[] {0, 8, 15}) {
                x.none("piece", side, good);
                x.none("piece", good, side);
            }
            x.none("piece", side, side);
        }
        for (int[] near : new int[][] {{1, 0}, {0, 1}, {14, 15}, {15, 14}, {7, 8}, {9, 8}, {8, 7}, {8, 9}}) {
            x.none("piece", near[0], near[1]);
        }
        int[][] due = {{0, 0, 0}, {15, 0, 1}, {8, 8, 2}, {0, 15, 3}, {15, 15, 4}};
        for (int[] d : due) {
            x.due(d[2], "piece", d[0], d[1]);
        }
    }

    private static void pieceInNone() {
        Run x = new Run(1);
        x.yes("pixel", 0, 0);
        x.none("piece", 0, 0);
        x.teachAll();
        x.unknownPixels(15, 15, 4, 4);
        x.pixels(0, 3, 4, 5, 4);
        x.none("piece", 0, 0);
        x.none("piece", 15, 15);
        x.none("piece", 4, 4);
        x.due(0, "piece", 3, 4);
        x.due(1, "piece", 5, 4);
    }

    private static void pieceKindNone() {
        Run x = new Run(2);
        x.none("pieceKind", 0);
        x.teachAll();
        x.unknownPixels(8, 8);
        x.none("pieceKind", 0);
        x.pixels(1, 0, 0);
        x.due(1, "pieceKind", 0);
        x.pixels(0, 15, 15);
        x.due(0, "pieceKind", 1);
        for (int piece : new int[] {-1, -2, 2, 3, 99, 100, 256, LEAST, MOST}) {
            x.none("pieceKind", piece);
        }
        // two pieces that become one leave no second number
        x.pixels(0, 4, 4, 6, 4);
        x.due(0, "pieceKind", 3);
        x.none("pieceKind", 4);
        x.pixels(0, 5, 4);
        x.none("pieceKind", 3);
        hundredPieces("pieceKind");
    }

    private static void neighboursNone() {
        Run x = new Run(1);
        x.none("neighbours", 0);
        x.teachAll();
        x.unknownPixels(8, 8);
        x.none("neighbours", 0);
        x.pixels(0, 0, 0);
        x.due(0, "neighbours", 0);
        x.pixels(0, 1, 1);
        x.due(1, "neighbours", 0);
        x.due(1, "neighbours", 1);
        for (int piece : new int[] {-1, -2, 2, 3, 99, 100, 256, LEAST, MOST}) {
            x.none("neighbours", piece);
        }
        x.pixels(0, 1, 0);
        x.due(0, "neighbours", 0);
        x.none("neighbours", 1);
        hundredPieces("neighbours");
    }

    /** As many pieces as there can be: eight a line, each line one place further than the one before. */
    private static void hundredPieces(String name) {
        Run x = new Run(1);
        x.teachAll();
        for (int i = 0; i < 100; i++) {
            x.yes("pixel", i % 8 * 2 + i / 8 % 2, i / 8);
        }
        boolean kind = name.equals("pieceKind");
        x.due(kind ? 0 : 1, name, 0);
        x.due(kind ? 0 : 2, name, 7);
        x.due(kind ? 0 : 4, name, 9);
        x.due(kind ? 0 : 2, name, 99);
        x.none(name, 100);
        x.none(name, -1);
        x.none(name, LEAST);
        x.none(name, MOST);
    }

    // ---- promises 18 to 20

    private static void packNone() {
        Run x = new Run(4);
        x.due(4, "pack", 0);
        x.due(0, "pack", 1);
        x.due(4, "pack", 2);
        for (int rows = 0; rows <= 40; rows++) {
            int end = 2 + 9 * rows;
            if (rows > 0) {
                x.due(rows - 1, "teach", 3);
            }
            x.due((4 + rows + 3 * rows) % 256, "pack", end);
            for (int i : new int[] {end + 1, end + 2, 364, -1, LEAST, MOST}) {
                x.none("pack", i);
            }
        }
        x.due(0, "pack", 361);
        x.due((4 + 40 + 120) % 256, "pack", 362);
        x.none("pack", 363);
    }

    private static void feedBytes() {
        Run x = new Run(2);
        for (int b : Run.NO_BYTES) {
            x.no("feed", b);
        }
        x.yes("feed", 2);
        for (int b : Run.NO_BYTES) {
            x.no("feed", b);
        }
        x.feedAll(1, 1, 0, 1, 254, 255, 0, 0, 0, 0, (4 + 1 + 254 + 255) % 256);
        for (int b : Run.NO_BYTES) {
            x.no("feed", b);
        }
        x.due(1, "open");
        x.packs(Run.packed(2, 1, 0, 1, 254, 255, 0, 0, 0, 0));
    }

    private static void feedFull() {
        Run x = new Run(1);
        for (int i = 0; i < 399; i++) {
            x.yes("feed", 0);
        }
        x.no("feed", -1);
        x.no("feed", 256);
        x.yes("feed", 0);
        for (int b : new int[] {0, 1, 255, -1, 256, LEAST, MOST}) {
            x.no("feed", b);
        }
        x.none("open");
        x.feedAll(1, 0, 1);
        x.due(0, "open");
        for (int i = 0; i < 50; i++) {
            x.yes("feed", 255);
        }
        fullThenMore();
    }

    /** What is refused behind 400 is not kept for later: the whole packed rows after it open as they are. */
    private static void fullThenMore() {
        Run x = new Run(1);
        for (int i = 0; i < 400; i++) {
            x.yes("feed", i == 0 || i == 2 ? 1 : 0);
        }
        x.no("feed", 1);
        x.no("feed", 0);
        x.no("feed", 1);
        x.none("open");
        x.none("open");
        x.feedAll(Run.packed(1, 0, 1, 2, 3, 4, 5, 6, 7, 8));
        x.due(1, "open");
        x.packs(Run.packed(1, 0, 1, 2, 3, 4, 5, 6, 7, 8));
    }

    private static void openForgets() {
        Run x = new Run(2);
        x.feedAll(2, 0, 2);
        x.due(0, "open");
        x.none("open");
        x.feedAll(2, 0, 2);
        x.due(0, "open");
        x.feedAll(2, 0);
        x.none("open");
        // the byte that was wanted comes too late
        x.feedAll(2);
        x.none("open");
        x.feedAll(9, 9, 9, 9);
        x.none("open");
        x.feedAll(2, 0, 2);
        x.due(0, "open");
        // what stood behind the bytes of now is not read
        x.feedAll(Run.packed(2, 1, 1, 2, 3, 4, 5, 6, 7, 8));
        x.due(1, "open");
        x.feedAll(2, 1, 1);
        x.none("open");
        x.due(1, "pack", 1);
    }

    private static void openKinds() {
        for (int kinds = 1; kinds <= 4; kinds++) {
            for (int other : new int[] {0, 1, 2, 3, 4, 5, 255}) {
                Run x = new Run(kinds);
                x.due(0, "teach", 0);
                x.feedAll(other, 0, other);
                x.due(other == kinds ? 0 : NONE, "open");
                x.due(other == kinds ? 0 : 1, "pack", 1);
                x.feedAll(Run.packed(other, 0, 1, 2, 3, 4, 5, 6, 7, 8));
                x.due(other == kinds ? 1 : NONE, "open");
                x.due(other == kinds ? 1 : 0, "pack", 3);
            }
        }
    }

    private static void openKindsBelow() {
        for (int kinds = 1; kinds <= 4; kinds++) {
            for (int kind : new int[] {0, 1, 2, 3, 4, 5, 255}) {
                boolean below = kind < kinds;
                Run x = new Run(kinds);
                x.feedAll(Run.packed(kinds, kind, 9, 9, 9, 9, 9, 9, 9, 9));
                x.due(below ? 1 : NONE, "open");
                x.feedAll(Run.packed(kinds, 0, 9, 9, 9, 9, 9, 9, 9, 9, kind, 9, 9, 9, 9, 9, 9, 9, 9));
                x.due(below ? 2 : NONE, "open");
                x.feedAll(Run.packed(kinds, kind, 9, 9, 9, 9, 9, 9, 9, 9, 0, 9, 9, 9, 9, 9, 9, 9, 9));
                x.due(below ? 2 : NONE, "open");
                x.due(below ? 2 : 0, "pack", 1);
            }
        }
        // a row's numbers may be any bytes
        Run x = new Run(1);
        x.feedAll(Run.packed(1, 0, 255, 255, 0, 4, 255, 1, 2, 255));
        x.due(1, "open");
        x.packs(Run.packed(1, 0, 255, 255, 0, 4, 255, 1, 2, 255));
        // the last of 40 is looked at too
        int[] rows = new int[360];
        rows[351] = 1;
        Run y = new Run(1);
        y.feedAll(Run.packed(1, rows));
        y.none("open");
        Run z = new Run(2);
        z.feedAll(Run.packed(2, rows));
        z.due(40, "open");
    }

    private static void openForty() {
        for (int rows : new int[] {39, 40, 41, 42, 43, 44}) {
            int[] numbers = new int[9 * rows];
            for (int i = 0; i < numbers.length; i++) {
                numbers[i] = i % 9 == 0 ? 0 : i % 256;
            }
            Run x = new Run(1);
            x.showAll(7);
            x.due(0, "teach", 0);
            x.feedAll(Run.packed(1, numbers));
            x.due(rows <= 40 ? rows : NONE, "open");
            x.due(rows <= 40 ? rows : 1, "pack", 1);
            x.due(rows <= 40 ? 1 : 7, "pack", 3);
            x.due(rows <= 40 ? rows == 40 ? NONE : 39 : 1, "teach", 0);
        }
        for (int told : new int[] {45, 128, 254, 255}) {
            Run x = new Run(1);
            int[] bytes = new int[400];
            bytes[0] = 1;
            bytes[1] = told;
            x.feedAll(Run.rested(bytes));
            x.none("open");
            x.due(0, "pack", 1);
        }
    }

    private static void openNothingMore() {
        int[] row = Run.packed(3, 2, 10, 20, 30, 40, 50, 60, 70, 80);
        int[][] more = {
            {3, 0, 3, 0}, {3, 0, 3, 3}, {3, 0, 3, 6}, {3, 0, 0, 3}, {3, 0, 3, 3, 0, 3},
            Arrays.copyOf(row, 13), Run.rested(Arrays.copyOf(row, 13)), Arrays.copyOf(row, 20),
            Run.rested(Arrays.copyOf(row, 21)), Arrays.copyOf(row, 400),
            // fewer rows told than there are
            Run.rested(3, 0, 2, 10, 20, 30, 40, 50, 60, 70, 80, 0),
        };
        for (int[] bytes : more) {
            Run x = new Run(3);
            x.due(0, "teach", 1);
            x.feedAll(bytes);
            x.none("open");
            x.due(1, "pack", 1);
            x.due(1, "pack", 2);
        }
        Run x = new Run(3);
        x.feedAll(row);
        x.due(1, "open");
        // as many as there can be, and one byte more
        int[] forty = Run.packed(1, new int[360]);
        Run y = new Run(1);
        y.feedAll(Arrays.copyOf(forty, 364));
        y.none("open");
        Run z = new Run(1);
        z.feedAll(forty);
        z.due(40, "open");
    }

    private static void openTooShort() {
        int[] rows = Run.packed(2, 1, 3, 0, 0, 0, 0, 0, 0, 0, 0, 0, 0, 0, 0, 0, 0, 0, 0);
        for (int length = 0; length < rows.length; length++) {
            Run x = new Run(2);
            x.show(Run.UP_DOWN);
            x.due(0, "teach", 1);
            x.feedAll(Arrays.copyOf(rows, length));
            x.none("open");
            x.packs(Run.packed(2, 1, 0, 255, 0, 255, 0, 255, 0, 255));
            if (length > 2) {
                x.feedAll(Run.rested(Arrays.copyOf(rows, length)));
                x.none("open");
            }
        }
        Run x = new Run(2);
        x.feedAll(rows);
        x.due(2, "open");
        // K alone, K and how many, and only then the rest
        Run y = new Run(2);
        y.none("open");
        y.feedAll(2);
        y.none("open");
        y.feedAll(2, 0);
        y.none("open");
        y.feedAll(2, 0, 2);
        y.due(0, "open");
        y.feedAll(2, 1, 3);
        y.none("open");
    }

    private static void openRest() {
        for (int number : new int[] {0, 1, 252, 253, 254, 255}) {
            int[] good = Run.packed(1, 0, number, 0, 0, 0, 0, 0, 0, 0);
            for (int off : new int[] {0, 1, 2, 128, 254, 255}) {
                int[] bytes = good.clone();
                bytes[11] = (bytes[11] + off) % 256;
                Run x = new Run(1);
                x.feedAll(bytes);
                x.due(off == 0 ? 1 : NONE, "open");
                x.due(off == 0 ? 1 : 0, "pack", 1);
            }
        }
        // a sum far above 256
        int[] full = new int[360];
        Arrays.fill(full, 255);
        for (int i = 0; i < 360; i += 9) {
            full[i] = 3;
        }
        int[] good = Run.packed(4, full);
        for (int off = 0; off < 2; off++) {
            Run x = new Run(4);
            x.feedAll(Arrays.copyOf(good, 362));
            x.yes("feed", (good[362] + off) % 256);
            x.due(off == 0 ? 40 : NONE, "open");
        }
        // every byte counts
        int[] row = Run.packed(3, 1, 10, 20, 30, 40, 50, 60, 70, 80);
        for (int i = 0; i < row.length; i++) {
            int[] bytes = row.clone();
            bytes[i] ^= 1;
            Run x = new Run(3);
            x.feedAll(bytes);
            x.none("open");
        }
    }

    private static void openAnswers() {
        Run x = new Run(2);
        x.teachAll();
        x.pixels(1, 5, 5);
        x.feedAll(Run.packed(2, 0, 255, 0, 255, 0, 255, 0, 255, 0));
        x.due(1, "open");
        x.packs(Run.packed(2, 0, 255, 0, 255, 0, 255, 0, 255, 0));
        // the rows of before are gone; all else stays
        x.due(-2, "leftOut", 1);
        x.due(0, "sum", 1);
        x.none("read");
        x.due(1, "pieceKind", 0);
        x.due(1, "teach", 1);
        x.due(1, "read");
        x.feedAll(2, 0, 2);
        x.due(0, "open");
        x.due(-2, "leftOut", 0);
        x.none("read");
        x.due(0, "teach", 1);
        x.due(1, "pack", 1);
        x.due(1, "read");
    }

    private static void openElseStays() {
        Run x = new Run(2);
        x.teachAll();
        x.pixels(1, 5, 5);
        x.yes("worth", 0, 4);
        x.yes("worth", 1, 3);
        x.yes("reference", 0, 100, 40);
        x.yes("bound", 7001);
        x.feedAll(2, 0, 2);
        x.due(0, "open");
        x.due(1, "pieceKind", 0);
        x.no("pixel", 5, 5);
        x.no("reference", 1, 100, 40);
        x.show(Run.FLAT);
        x.due(0, "teach", 0);
        x.due(1, "teach", 1);
        x.none("read");
        x.yes("bound", 7000);
        x.due(0, "read");
        x.yes("worth", 0, 3);
        x.due(0, "read");
        x.yes("worth", 0, 2);
        x.due(1, "read");
        x.yes("value", 0, 50);
        x.due(2, "teach", 0);
        x.due(128, "pack", 21);
    }

    private static void openRowsStay() {
        int[] mine = Run.packed(2, 0, 0, 0, 0, 0, 0, 0, 0, 0, 1, 0, 255, 0, 255, 0, 255, 0, 255);
        int[] good = Run.packed(2, 1, 9, 9, 9, 9, 9, 9, 9, 9, 1, 8, 8, 8, 8, 8, 8, 8, 8);
        for (int i = -1; i < good.length; i++) {
            int[] bytes = i < 0 ? new int[0] : good.clone();
            if (i >= 0) {
                bytes[i] ^= 128;
            }
            Run x = new Run(2);
            x.teachAll();
            x.feedAll(bytes);
            x.none("open");
            x.packs(mine);
            x.due(1, "read");
            x.due(2, "teach", 0);
        }
        // a wrong kind in the second row leaves the first of the old ones too
        Run x = new Run(2);
        x.teachAll();
        x.feedAll(Run.packed(2, 1, 9, 9, 9, 9, 9, 9, 9, 9, 2, 8, 8, 8, 8, 8, 8, 8, 8));
        x.none("open");
        x.packs(mine);
        Run y = new Run(2);
        y.teachAll();
        y.feedAll(good);
        y.due(2, "open");
        y.packs(good);
    }
}
