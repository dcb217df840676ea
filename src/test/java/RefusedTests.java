import java.util.ArrayList;
import java.util.LinkedHashMap;
import java.util.List;
import java.util.Map;

/**
 * "A call that is refused, or throws, changes nothing": each such call is made in several states, and all that can be
 * asked or done then answers as on a twin on which it was not made.
 */
public final class RefusedTests {
    private static final int NONE = SpectrumHeads.NONE;
    private static final int KINDS = 3;
    private static final int LEAST = Integer.MIN_VALUE;
    private static final int MOST = Integer.MAX_VALUE;
    private static final int[] NO_KINDS = {-1, KINDS, LEAST, MOST};
    private static final int[] NO_ROWS = {-1, 40, LEAST, MOST};
    private static final int[] NO_PIECES = {-1, 100, LEAST, MOST};
    /** The start of packed rows that a probe completes. */
    private static final int[] BEGUN = {KINDS, 1, 2, 11, 22};

    private static final List<List<Call>> PROBES = probes();
    private static final Map<String, List<Call>> STATES = states();
    private static final Map<String, List<long[]>> TWINS = new LinkedHashMap<>();

    public static void main(String[] args) {
        Due.sentence("the states are what their names say", RefusedTests::namedStates);
        Due.sentence("white that throws changes nothing", RefusedTests::whiteThrows);
        Due.sentence("white that is refused changes nothing", () -> refusedByValue("white"));
        Due.sentence("dark that is refused changes nothing", RefusedTests::dark);
        Due.sentence("value that is refused changes nothing", RefusedTests::value);
        Due.sentence("reference that is refused changes nothing", RefusedTests::reference);
        Due.sentence("teach that is refused changes nothing", RefusedTests::teach);
        Due.sentence("bound that is refused changes nothing", RefusedTests::bound);
        Due.sentence("worth that is refused changes nothing", RefusedTests::worth);
        Due.sentence("correct that is refused changes nothing", RefusedTests::correct);
        Due.sentence("pixel that is refused changes nothing", RefusedTests::pixel);
        Due.sentence("feed that is refused changes nothing", RefusedTests::feed);
        Due.sentence("open that is refused only forgets what was fed", RefusedTests::open);
        Due.sentence("asking for what is not there changes nothing", RefusedTests::askedForNone);
        Due.sentence("asking changes nothing", RefusedTests::asked);
        Due.sentence("telling what is so already changes nothing", RefusedTests::toldAlready);
        Due.sentence("opening the rows that are taught changes nothing", RefusedTests::openedSame);
        Due.end();
    }

    // ---- twins

    private static List<long[]> answers(List<Call> setup) {
        List<long[]> all = new ArrayList<>();
        for (List<Call> probe : PROBES) {
            Run x = new Run(KINDS);
            x.makeAll(setup);
            all.add(answers(x, probe));
        }
        return all;
    }

    private static long[] answers(Run x, List<Call> probe) {
        long[] got = new long[probe.size()];
        for (int i = 0; i < got.length; i++) {
            got[i] = x.make(probe.get(i));
        }
        return got;
    }

    private static void same(String when, List<long[]> got, List<long[]> due) {
        for (int p = 0; p < PROBES.size(); p++) {
            for (int i = 0; i < PROBES.get(p).size(); i++) {
                Due.is(when + ", then " + PROBES.get(p).get(i) + " of probe " + p, got.get(p)[i], due.get(p)[i]);
            }
        }
    }

    private static void leavesAll(String state, Call call) {
        List<Call> with = new ArrayList<>(STATES.get(state));
        with.add(call);
        same(state + ": " + call, answers(with), twin(state));
    }

    private static List<long[]> twin(String state) {
        return TWINS.computeIfAbsent(state, name -> answers(STATES.get(name)));
    }

    private static void refused(String state, long due, String name, long... args) {
        Call call = new Call(name, args);
        Due.is(state + ": " + call, in(state).make(call), due);
        leavesAll(state, call);
    }

    private static void refusedInAll(long due, String name, long... args) {
        for (String state : STATES.keySet()) {
            refused(state, due, name, args);
        }
    }

    private static Run in(String state) {
        Run x = new Run(KINDS);
        x.makeAll(STATES.get(state));
        return x;
    }

    private static void namedStates() {
        Run middle = in("middle");
        middle.due(5, "pack", 1);
        Due.no("middle reads as unknown", middle.make("read") == NONE);
        middle.none("piece", 9, 9);
        middle.due(0, "piece", 0, 0);
        middle.due(1, "neighbours", 0);
        in("middle, unknown").none("read");
        in("forty rows").due(40, "pack", 1);
        Run hundred = in("hundred pixels");
        hundred.none("piece", 0, 0);
        hundred.due(0, "piece", 2, 0);
        Due.no("no piece 98", hundred.make("pieceKind", 98) == NONE);
        hundred.no("pixel", 15, 15);
        in("four hundred bytes").no("feed", 0);
    }

    // ---- the calls

    private static void whiteThrows() {
        for (int k : Run.NO_CHANNELS) {
            for (int v : new int[] {0, 100, 255, -1, 256}) {
                refusedInAll(Call.THROWS, "white", k, v);
            }
        }
    }

    private static void refusedByValue(String name) {
        for (int v : Run.NO_BYTES) {
            refusedInAll(0, name, 0, v);
            refusedInAll(0, name, 7, v);
        }
    }

    private static void refusedByChannel(String name) {
        for (int k : Run.NO_CHANNELS) {
            for (int v : new int[] {0, 100, 255, 256}) {
                refusedInAll(0, name, k, v);
            }
        }
    }

    private static void dark() {
        refusedByValue("dark");
        refusedByChannel("dark");
    }

    private static void value() {
        refusedByValue("value");
        refusedByChannel("value");
    }

    private static void reference() {
        for (long tick : new long[] {200, Long.MAX_VALUE}) {
            for (int k : Run.NO_CHANNELS) {
                refusedInAll(0, "reference", k, 100, tick);
            }
            for (int v : Run.NO_BYTES) {
                refusedInAll(0, "reference", 3, v, tick);
            }
        }
        for (long tick : new long[] {0, -1, Long.MIN_VALUE}) {
            refusedInAll(0, "reference", 3, 50, tick);
        }
        for (long tick : new long[] {100, 99, 1}) {
            refused("middle", 0, "reference", 2, 50, tick);
            refused("middle", 0, "reference", 6, 50, tick);
        }
    }

    private static void teach() {
        for (int kind : NO_KINDS) {
            refusedInAll(NONE, "teach", kind);
        }
        for (int kind = 0; kind < KINDS; kind++) {
            refused("forty rows", NONE, "teach", kind);
        }
    }

    private static void bound() {
        for (long v : new long[] {-1, 10001, 1L << 32, Long.MIN_VALUE, Long.MAX_VALUE}) {
            refusedInAll(0, "bound", v);
        }
    }

    private static void worth() {
        for (int kind : NO_KINDS) {
            refusedInAll(0, "worth", kind, 0);
            refusedInAll(0, "worth", kind, 1000);
        }
        for (long v : new long[] {-1, 1000001, (1L << 32) + 3, Long.MIN_VALUE, Long.MAX_VALUE}) {
            for (int kind = 0; kind < KINDS; kind++) {
                refusedInAll(0, "worth", kind, v);
            }
        }
    }

    private static void correct() {
        for (int row : NO_ROWS) {
            refusedInAll(NONE, "correct", row, 0);
            refusedInAll(NONE, "correct", row, 2);
        }
        for (int kind : NO_KINDS) {
            refusedInAll(NONE, "correct", 0, kind);
            refusedInAll(NONE, "correct", 3, kind);
        }
        refused("new", NONE, "correct", 0, 0);
        refused("middle", NONE, "correct", 5, 1);
    }

    private static void pixel() {
        for (int side : Run.NO_SIDES) {
            refusedInAll(0, "pixel", side, 3);
            refusedInAll(0, "pixel", 3, side);
        }
        refused("middle", 0, "pixel", 0, 0);
        refused("middle, unknown", 0, "pixel", 0, 0);
        refused("middle", 0, "pixel", 9, 9);
        refused("hundred pixels", 0, "pixel", 15, 15);
        refused("hundred pixels", 0, "pixel", 1, 0);
        refused("hundred pixels", 0, "pixel", 0, 0);
    }

    private static void feed() {
        for (int b : Run.NO_BYTES) {
            refusedInAll(0, "feed", b);
        }
        for (int b : new int[] {0, 3, 255}) {
            refused("four hundred bytes", 0, "feed", b);
        }
    }

    /** Here the twin is one to which nothing was fed at all. */
    private static void open() {
        int[][] wrong = {{}, {3}, {3, 0}, {3, 0, 4}, {2, 0, 2}, {3, 0, 3, 0}, {3, 255, 2},
            {3, 1, 1, 9, 9, 9, 9, 9, 9, 9, 9, 78}, {3, 1, 3, 9, 9, 9, 9, 9, 9, 9, 9, 79}};
        for (String state : List.of("middle, nothing fed", "forty rows", "hundred pixels", "new")) {
            for (int[] bytes : wrong) {
                List<Call> with = new ArrayList<>(STATES.get(state));
                for (int b : bytes) {
                    with.add(new Call("feed", b));
                }
                Run x = new Run(KINDS);
                x.makeAll(with);
                x.none("open");
                with.add(new Call("open"));
                same(state + ": open() after " + bytes.length + " bytes", answers(with), twin(state));
            }
        }
        refused("new", NONE, "open");
    }

    private static void askedForNone() {
        for (int kind : NO_KINDS) {
            refusedInAll(NONE, "sum", kind);
            refusedInAll(NONE, "wrong", kind, 0);
        }
        for (int as : new int[] {-2, KINDS, LEAST, MOST}) {
            refusedInAll(NONE, "wrong", 0, as);
        }
        for (int row : NO_ROWS) {
            refusedInAll(-2, "leftOut", row);
        }
        for (int piece : NO_PIECES) {
            refusedInAll(NONE, "pieceKind", piece);
            refusedInAll(NONE, "neighbours", piece);
        }
        for (int side : Run.NO_SIDES) {
            refusedInAll(NONE, "piece", side, 3);
            refusedInAll(NONE, "piece", 3, side);
        }
        for (int i : new int[] {-1, 363, LEAST, MOST}) {
            refusedInAll(NONE, "pack", i);
        }
    }

    private static void asked() {
        List<Call> asks = List.of(new Call("read"), new Call("sum", 0), new Call("sum", 2), new Call("leftOut", 0),
            new Call("leftOut", 3), new Call("wrong", 0, 0), new Call("wrong", 1, -1), new Call("piece", 0, 0),
            new Call("piece", 9, 9), new Call("pieceKind", 0), new Call("neighbours", 0), new Call("pack", 0),
            new Call("pack", 2), new Call("pack", 47));
        for (String state : STATES.keySet()) {
            for (Call ask : asks) {
                leavesAll(state, ask);
            }
        }
    }

    private static void toldAlready() {
        List<Call> same = List.of(new Call("dark", 0, 5), new Call("white", 7, 220), new Call("value", 3, 90),
            new Call("worth", 0, 5), new Call("worth", 2, 7), new Call("correct", 0, 0), new Call("correct", 1, 1),
            new Call("correct", 4, 1));
        for (Call call : same) {
            leavesAll("middle", call);
            leavesAll("middle, unknown", call);
        }
        leavesAll("new", new Call("bound", 1));
    }

    private static void openedSame() {
        for (String state : List.of("new", "middle, nothing fed", "hundred pixels")) {
            Run x = in(state);
            List<Call> with = new ArrayList<>(STATES.get(state));
            long rows = x.make("pack", 1);
            for (int i = 0; i <= 2 + 9 * rows; i++) {
                add(with, "feed", x.make("pack", i));
            }
            Run y = new Run(KINDS);
            y.makeAll(with);
            y.due(rows, "open");
            add(with, "open");
            same(state + ": its rows opened", answers(with), twin(state));
        }
    }

    // ---- the states

    private static void add(List<Call> calls, String name, long... args) {
        calls.add(new Call(name, args));
    }

    private static Map<String, List<Call>> states() {
        Map<String, List<Call>> all = new LinkedHashMap<>();
        all.put("new", List.of());
        List<Call> middle = middle();
        all.put("middle, nothing fed", boundBy(middle, 0));
        for (int b : BEGUN) {
            add(middle, "feed", b);
        }
        // a bound that is any greater lets the one read as unknown, one that is any less makes the other known
        all.put("middle", boundBy(middle, 0));
        all.put("middle, unknown", boundBy(middle, 1));
        all.put("forty rows", fortyRows());
        all.put("hundred pixels", hundredPixels());
        all.put("four hundred bytes", fourHundredBytes());
        return all;
    }

    /** Something of all: channels, five rows, worths, a tick, pixels in pieces and an unknown one. */
    private static List<Call> middle() {
        List<Call> calls = new ArrayList<>();
        for (int k = 0; k < 8; k++) {
            add(calls, "dark", k, 5 + k);
            add(calls, "white", k, 150 + 10 * k);
        }
        add(calls, "reference", 2, 220, 60);
        add(calls, "reference", 5, 210, 100);
        for (int kind = 0; kind < KINDS; kind++) {
            add(calls, "worth", kind, 5 + kind);
        }
        for (int row = 0; row < 5; row++) {
            for (int k = 0; k < 8; k++) {
                add(calls, "value", k, (70 * row + 90 * k * (row + 1)) % 256);
            }
            add(calls, "teach", row % KINDS);
            add(calls, "pixel", 2 * row, row % 2);
            add(calls, "pixel", 2 * row, row % 2 + 1);
        }
        // a corner of the first piece, and a side of another
        add(calls, "pixel", 1, 2);
        add(calls, "bound", 10000);
        add(calls, "pixel", 9, 9);
        add(calls, "value", 3, 90);
        return calls;
    }

    private static List<Call> boundBy(List<Call> calls, int above) {
        Run x = new Run(KINDS);
        x.makeAll(calls);
        long greatest = 0;
        for (int kind = 0; kind < KINDS; kind++) {
            greatest = Math.max(greatest, x.make("sum", kind));
        }
        List<Call> bound = new ArrayList<>(calls);
        add(bound, "bound", greatest + above);
        return bound;
    }

    private static List<Call> fortyRows() {
        List<Call> calls = new ArrayList<>();
        for (int row = 0; row < 40; row++) {
            add(calls, "value", row % 8, 50 + 5 * row);
            add(calls, "teach", row % KINDS);
        }
        add(calls, "pixel", 4, 4);
        return calls;
    }

    private static List<Call> hundredPixels() {
        List<Call> calls = new ArrayList<>();
        add(calls, "pixel", 0, 0);
        for (int kind = 0; kind < KINDS; kind++) {
            add(calls, "value", kind, 255);
            add(calls, "teach", kind);
        }
        for (int i = 1; i < 100; i++) {
            add(calls, "value", 0, i % 3 * 127);
            add(calls, "pixel", (i * 2 + i / 8 % 2) % 16, i / 8);
        }
        return calls;
    }

    private static List<Call> fourHundredBytes() {
        List<Call> calls = new ArrayList<>();
        add(calls, "teach", 1);
        add(calls, "pixel", 4, 4);
        for (int i = 0; i < 400; i++) {
            add(calls, "feed", i < 5 ? BEGUN[i] : 0);
        }
        return calls;
    }

    // ---- the probes: none so long that the longest state leaves no room for it

    private static List<List<Call>> probes() {
        List<List<Call>> all = new ArrayList<>();
        packed(all);
        readings(all);
        pixelsAndPieces(all);
        for (int k = 0; k < 8; k++) {
            all.add(channel(k));
        }
        for (int a = 0; a < KINDS; a++) {
            for (int b = 0; b < KINDS; b++) {
                if (a != b) {
                    all.add(worths(a, b));
                }
            }
        }
        List<Call> ticks = new ArrayList<>();
        for (long tick : new long[] {0, 1, 99, 100, 101}) {
            add(ticks, "reference", 1, 50, tick);
        }
        all.add(ticks);
        all.add(completed());
        all.add(emptied());
        return all;
    }

    private static void packed(List<List<Call>> all) {
        for (int from = 0; from < 364; from += 91) {
            List<Call> bytes = new ArrayList<>();
            for (int i = from; i < from + 91; i++) {
                add(bytes, "pack", i);
            }
            all.add(bytes);
        }
    }

    private static void readings(List<List<Call>> all) {
        List<Call> reads = new ArrayList<>();
        add(reads, "read");
        for (int kind = 0; kind < KINDS; kind++) {
            add(reads, "sum", kind);
            for (int as = NONE; as < KINDS; as++) {
                add(reads, "wrong", kind, as);
            }
        }
        for (int row = 0; row <= 40; row++) {
            add(reads, "leftOut", row);
        }
        // the number that the next row has
        add(reads, "teach", 0);
        all.add(reads);
    }

    private static void pixelsAndPieces(List<List<Call>> all) {
        for (int from = 0; from < 256; from += 86) {
            List<Call> asks = new ArrayList<>();
            List<Call> tells = new ArrayList<>();
            for (int place = from; place < Math.min(256, from + 86); place++) {
                add(asks, "piece", place % 16, place / 16);
                add(tells, "pixel", place % 16, place / 16);
            }
            add(tells, "pieceKind", 0);
            all.add(asks);
            all.add(tells);
        }
        for (int from = 0; from <= 100; from += 51) {
            List<Call> pieces = new ArrayList<>();
            for (int piece = from; piece < from + 51; piece++) {
                add(pieces, "pieceKind", piece);
                add(pieces, "neighbours", piece);
            }
            all.add(pieces);
        }
    }

    private static List<Call> emptied() {
        List<Call> calls = new ArrayList<>();
        add(calls, "open");
        for (int b : new int[] {KINDS, 0, KINDS}) {
            add(calls, "feed", b);
        }
        add(calls, "open");
        return calls;
    }

    private static List<Call> completed() {
        List<Call> calls = new ArrayList<>();
        for (int b : new int[] {33, 44, 55, 66, 77, 88, (6 + 396) % 256}) {
            add(calls, "feed", b);
        }
        add(calls, "open");
        for (int i = 0; i < 12; i++) {
            add(calls, "pack", i);
        }
        return calls;
    }

    /** The row of now, then a channel's number for several values, then its dark once more with the white at 255. */
    private static List<Call> channel(int k) {
        List<Call> calls = emptied();
        add(calls, "teach", 0);
        for (int i = 3; i < 11; i++) {
            add(calls, "pack", i);
        }
        int row = 1;
        for (int round = 0; round < 2; round++) {
            for (int v : new int[] {0, 1, 10, 50, 100, 150, 200, 255}) {
                add(calls, "value", k, v);
                add(calls, "teach", 0);
                add(calls, "pack", 3 + 9 * row + k);
                row++;
            }
            add(calls, "white", k, 255);
        }
        return calls;
    }

    /** With no rows and the bound 0 the greatest worth reads: it tells which worth kind a has. */
    private static List<Call> worths(int a, int b) {
        List<Call> calls = emptied();
        add(calls, "bound", 0);
        add(calls, "read");
        add(calls, "worth", KINDS - a - b, 0);
        for (int worth = 0; worth < 10; worth++) {
            add(calls, "worth", b, worth);
            add(calls, "read");
        }
        return calls;
    }
}
