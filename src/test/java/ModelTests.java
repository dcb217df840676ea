import java.util.ArrayList;
import java.util.Arrays;
import java.util.HashSet;
import java.util.List;
import java.util.Random;
import java.util.Set;
import java.util.TreeMap;

/** Random runs of at most 512 calls, each answer compared with a second, slower writing of the document. */
public final class ModelTests {
    private static final int RUNS = 3000;
    private static final int CALLS = 512;
    private static final int[] ODD_INTS = {Integer.MIN_VALUE, -257, -2, -1, 8, 15, 16, 40, 41, 99, 100, 255, 256, 400,
        Integer.MAX_VALUE};
    private static final long[] ODD_LONGS = {Long.MIN_VALUE, -1L, 0L, 1L, 7000L, 7001L, 10000L, 10001L, 1000000L,
        1000001L, 1L << 32, Long.MAX_VALUE};

    private final Random random;
    private final SpectrumHeads x;
    private final Model model;
    private final int style;
    private final int run;
    private int calls = 0;
    private long tick = 0;

    private ModelTests(int run) {
        this.run = run;
        random = new Random(run);
        int kinds = random.nextInt(6);
        style = random.nextInt(4);
        x = new SpectrumHeads(kinds);
        model = new Model(kinds);
    }

    public static void main(String[] args) {
        for (int run = 0; run < RUNS && Due.wrongSoFar() < 20; run++) {
            ModelTests t = new ModelTests(run);
            while (t.calls < CALLS) {
                t.step();
            }
        }
        Due.end();
    }

    /** Mostly a number of 0 .. top - 1, now and then one that is not. */
    private int some(int top) {
        return random.nextInt(12) == 0 ? ODD_INTS[random.nextInt(ODD_INTS.length)] : random.nextInt(top);
    }

    private int kind() {
        return random.nextInt(8) == 0 ? random.nextInt(7) - 2 : random.nextInt(model.kinds);
    }

    private long someLong(long top) {
        return random.nextInt(6) == 0 ? ODD_LONGS[random.nextInt(ODD_LONGS.length)] : random.nextInt((int) top);
    }

    private void due(String call, long got, long due) {
        calls++;
        Due.is("run " + run + ", call " + calls + ": " + call, got, due);
    }

    private static long bit(boolean b) {
        return b ? 1 : 0;
    }

    private void step() {
        int pick = random.nextInt(100);
        if (pick < 30) {
            channels();
        } else if (pick < 45) {
            teaching();
        } else if (pick < 60) {
            reading();
        } else if (pick < 85) {
            belt();
        } else {
            packing();
        }
    }

    private void channels() {
        int k = some(8);
        int v = random.nextInt(3) == 0 ? 255 * random.nextInt(2) : some(256);
        int pick = random.nextInt(style == 0 ? 12 : 40);
        if (pick == 0) {
            due("white(" + k + ", " + v + ")", whiteOf(k, v), model.white(k, v));
        } else if (pick == 1) {
            due("dark(" + k + ", " + v + ")", bit(x.dark(k, v)), bit(model.dark(k, v)));
        } else if (pick == 2) {
            long t = random.nextInt(9) == 0 ? someLong(50) : tick + random.nextInt(4) - 1;
            tick = Math.max(tick, Math.min(t, 1L << 40));
            due("reference(" + k + ", " + v + ", " + t + ")", bit(x.reference(k, v, t)), bit(model.reference(k, v, t)));
        } else {
            due("value(" + k + ", " + v + ")", bit(x.value(k, v)), bit(model.value(k, v)));
        }
    }

    private int whiteOf(int k, int v) {
        try {
            return x.white(k, v) ? 1 : 0;
        } catch (ArrayIndexOutOfBoundsException e) {
            return 2;
        }
    }

    private void teaching() {
        int kind = kind();
        int row = some(Math.max(1, model.taught.size() + 1));
        int pick = random.nextInt(20);
        if (pick < 11) {
            due("teach(" + kind + ")", x.teach(kind), model.teach(kind));
        } else if (pick < 15) {
            due("correct(" + row + ", " + kind + ")", x.correct(row, kind), model.correct(row, kind));
        } else if (pick < 17) {
            long v = random.nextInt(4) == 0 ? someLong(10001) : random.nextInt(style == 1 ? 7001 : 2);
            due("bound(" + v + ")", bit(x.bound(v)), bit(model.bound(v)));
        } else {
            long v = random.nextInt(4) == 0 ? someLong(1000001) : random.nextInt(3);
            due("worth(" + kind + ", " + v + ")", bit(x.worth(kind, v)), bit(model.worth(kind, v)));
        }
    }

    private void reading() {
        int kind = kind();
        int as = kind();
        int row = some(Math.max(1, model.taught.size() + 1));
        int pick = random.nextInt(4);
        if (pick == 0) {
            due("read()", x.read(), model.read());
        } else if (pick == 1) {
            due("sum(" + kind + ")", x.sum(kind), model.sum(kind));
        } else if (pick == 2) {
            due("leftOut(" + row + ")", x.leftOut(row), model.leftOut(row));
        } else {
            due("wrong(" + kind + ", " + as + ")", x.wrong(kind, as), model.wrong(kind, as));
        }
    }

    private void belt() {
        int side = style == 2 ? 6 : style == 3 ? 10 : 16;
        int px = some(side);
        int py = some(side);
        int piece = some(model.pieces().size() + 1);
        int pick = random.nextInt(20);
        if (pick < 12) {
            due("pixel(" + px + ", " + py + ")", bit(x.pixel(px, py)), bit(model.pixel(px, py)));
        } else if (pick < 15) {
            due("piece(" + px + ", " + py + ")", x.piece(px, py), model.piece(px, py));
        } else if (pick < 17) {
            due("pieceKind(" + piece + ")", x.pieceKind(piece), model.pieceKind(piece));
        } else {
            due("neighbours(" + piece + ")", x.neighbours(piece), model.neighbours(piece));
        }
    }

    private void packing() {
        int pick = random.nextInt(30);
        if (pick < 20) {
            int i = some(model.packed().size() + 1);
            due("pack(" + i + ")", x.pack(i), model.pack(i));
        } else if (pick < 26) {
            int b = some(256);
            due("feed(" + b + ")", bit(x.feed(b)), bit(model.feed(b)));
        } else if (pick < 29 || calls > CALLS - 20) {
            due("open()", x.open(), model.open());
        } else {
            feedPacked();
        }
    }

    /** Packed rows, some of them with a fault. */
    private void feedPacked() {
        Model other = new Model(random.nextInt(5) == 0 ? 4 : model.kinds);
        int room = (CALLS - calls - 5) / 9;
        int rows = Math.min(room, random.nextInt(5) == 0 ? random.nextInt(42) : random.nextInt(5));
        for (int i = 0; i < rows; i++) {
            int[] row = new int[9];
            for (int k = 0; k < 9; k++) {
                row[k] = k == 0 ? random.nextInt(other.kinds) : random.nextInt(256);
            }
            other.taught.add(row);
        }
        List<Integer> bytes = new ArrayList<>(other.packed());
        int fault = random.nextInt(8);
        if (fault == 0) {
            bytes.set(random.nextInt(bytes.size()), random.nextInt(256));
        } else if (fault == 1) {
            bytes.remove(random.nextInt(bytes.size()));
        } else if (fault == 2) {
            bytes.add(random.nextInt(256));
        }
        if (random.nextInt(3) > 0) {
            due("open()", x.open(), model.open());
        }
        for (int b : bytes) {
            due("feed(" + b + ")", bit(x.feed(b)), bit(model.feed(b)));
        }
        due("open()", x.open(), model.open());
    }

    /** The document once more, with lists and sets and nothing kept that can be worked out. */
    private static final class Model {
        private final int kinds;
        private final int[] whites = {255, 255, 255, 255, 255, 255, 255, 255};
        private final int[] darks = new int[8];
        private final int[] values = new int[8];
        private final List<int[]> taught = new ArrayList<>();
        private final long[] worths = new long[4];
        private final TreeMap<Integer, Integer> told = new TreeMap<>();
        private final List<Integer> fed = new ArrayList<>();
        private long tick = 0;
        private long bound = 1;

        Model(int kinds) {
            this.kinds = List.of(1, 2, 3, 4).contains(kinds) ? kinds : 1;
        }

        private static boolean in(long v, long from, long to) {
            return from <= v && v <= to;
        }

        private boolean isKind(int kind) {
            return in(kind, 0, kinds - 1);
        }

        int white(int k, int v) {
            if (!in(k, 0, 7)) {
                return 2;
            }
            return set(whites, k, v) ? 1 : 0;
        }

        boolean dark(int k, int v) {
            return set(darks, k, v);
        }

        boolean value(int k, int v) {
            return set(values, k, v);
        }

        private static boolean set(int[] all, int k, int v) {
            if (!in(k, 0, 7) || !in(v, 0, 255)) {
                return false;
            }
            all[k] = v;
            return true;
        }

        boolean reference(int k, int v, long t) {
            if (t <= tick || !set(whites, k, v)) {
                return false;
            }
            tick = t;
            return true;
        }

        private int[] now(int kind) {
            int[] row = new int[9];
            row[0] = kind;
            for (int k = 0; k < 8; k++) {
                int d = whites[k] - darks[k];
                row[k + 1] = d <= 0 ? 0
                    : (int) Math.max(0, Math.min(255, Math.floor(256.0 * (values[k] - darks[k]) / d)));
            }
            return row;
        }

        private static int cell(int[] row, int k) {
            return Math.floorDiv(row[k + 2] - row[k + 1] + 256, 64);
        }

        private static long sum(List<int[]> rows, int[] of, int kind) {
            List<int[]> mine = rows.stream().filter(r -> r[0] == kind).toList();
            long sum = 0;
            for (int k = 0; k < 7 && !mine.isEmpty(); k++) {
                int at = k;
                sum += mine.stream().filter(r -> cell(r, at) == cell(of, at)).count() * 1000 / mine.size();
            }
            return sum;
        }

        private int first(long[] scores) {
            List<Integer> order = new ArrayList<>();
            for (int kind = 0; kind < kinds; kind++) {
                order.add(kind);
            }
            order.sort((a, b) -> scores[a] != scores[b] ? Long.compare(scores[b], scores[a])
                : worths[a] != worths[b] ? Long.compare(worths[b], worths[a]) : a - b);
            return order.get(0);
        }

        private int reads(List<int[]> rows, int[] of) {
            long[] sums = new long[kinds];
            for (int kind = 0; kind < kinds; kind++) {
                sums[kind] = sum(rows, of, kind);
            }
            int best = first(sums);
            return sums[best] < bound ? -1 : best;
        }

        int teach(int kind) {
            if (!isKind(kind) || taught.size() == 40) {
                return -1;
            }
            taught.add(now(kind));
            return taught.size() - 1;
        }

        int read() {
            return reads(taught, now(0));
        }

        long sum(int kind) {
            return isKind(kind) ? sum(taught, now(0), kind) : -1;
        }

        boolean bound(long v) {
            bound = in(v, 0, 10000) ? v : bound;
            return in(v, 0, 10000);
        }

        boolean worth(int kind, long v) {
            if (isKind(kind) && in(v, 0, 1000000)) {
                worths[kind] = v;
                return true;
            }
            return false;
        }

        int leftOut(int row) {
            if (!in(row, 0, taught.size() - 1)) {
                return -2;
            }
            List<int[]> others = new ArrayList<>(taught);
            int[] out = others.remove(row);
            return reads(others, out);
        }

        long wrong(int kind, int as) {
            if (!isKind(kind) || !in(as, -1, kinds - 1)) {
                return -1;
            }
            long n = 0;
            for (int i = 0; i < taught.size(); i++) {
                n += taught.get(i)[0] == kind && leftOut(i) == as ? 1 : 0;
            }
            return n;
        }

        int correct(int row, int kind) {
            if (!in(row, 0, taught.size() - 1) || !isKind(kind)) {
                return -1;
            }
            int[] changed = taught.get(row).clone();
            changed[0] = kind;
            return taught.set(row, changed)[0];
        }

        boolean pixel(int px, int py) {
            if (!in(px, 0, 15) || !in(py, 0, 15) || told.size() == 100 || told.containsKey(py * 100 + px)) {
                return false;
            }
            told.put(py * 100 + px, read());
            return true;
        }

        /** Places as 100 * y + x; each takes the least that it hangs together with until nothing changes. */
        private List<Set<Integer>> pieces() {
            TreeMap<Integer, Integer> least = new TreeMap<>();
            told.forEach((place, kind) -> {
                if (kind >= 0) {
                    least.put(place, place);
                }
            });
            for (boolean moved = true; moved;) {
                moved = false;
                for (int place : least.keySet()) {
                    for (int step : new int[] {-100, -1, 1, 100}) {
                        int other = least.getOrDefault(place + step, Integer.MAX_VALUE);
                        if (other < least.get(place)) {
                            least.put(place, other);
                            moved = true;
                        }
                    }
                }
            }
            TreeMap<Integer, Set<Integer>> byFirst = new TreeMap<>();
            least.forEach((place, first) -> byFirst.computeIfAbsent(first, f -> new HashSet<>()).add(place));
            return new ArrayList<>(byFirst.values());
        }

        int piece(int px, int py) {
            List<Set<Integer>> all = pieces();
            for (int i = 0; i < all.size(); i++) {
                if (in(px, 0, 15) && in(py, 0, 15) && all.get(i).contains(py * 100 + px)) {
                    return i;
                }
            }
            return -1;
        }

        int pieceKind(int piece) {
            List<Set<Integer>> all = pieces();
            if (!in(piece, 0, all.size() - 1)) {
                return -1;
            }
            long[] counts = new long[kinds];
            for (int place : all.get(piece)) {
                counts[told.get(place)]++;
            }
            return first(counts);
        }

        private static boolean near(Set<Integer> some, Set<Integer> others) {
            for (int a : some) {
                for (int b : others) {
                    if (Math.abs(a / 100 - b / 100) <= 1 && Math.abs(a % 100 - b % 100) <= 1) {
                        return true;
                    }
                }
            }
            return false;
        }

        int neighbours(int piece) {
            List<Set<Integer>> all = pieces();
            if (!in(piece, 0, all.size() - 1)) {
                return -1;
            }
            int n = 0;
            for (int i = 0; i < all.size(); i++) {
                n += i != piece && near(all.get(piece), all.get(i)) ? 1 : 0;
            }
            return n;
        }

        private List<Integer> packed() {
            List<Integer> bytes = new ArrayList<>(List.of(kinds, taught.size()));
            taught.forEach(row -> Arrays.stream(row).forEach(bytes::add));
            bytes.add(bytes.stream().mapToInt(b -> b).sum() % 256);
            return bytes;
        }

        int pack(int i) {
            List<Integer> bytes = packed();
            return in(i, 0, bytes.size() - 1) ? bytes.get(i) : -1;
        }

        boolean feed(int b) {
            return in(b, 0, 255) && fed.size() < 400 && fed.add(b);
        }

        /** Opens by packing again: what is packed rows comes out as it went in. */
        int open() {
            List<Integer> bytes = new ArrayList<>(fed);
            fed.clear();
            Model opened = new Model(kinds);
            for (int i = 2; i + 9 < bytes.size(); i += 9) {
                int[] row = new int[9];
                for (int k = 0; k < 9; k++) {
                    row[k] = bytes.get(i + k);
                }
                opened.taught.add(row);
            }
            boolean known = opened.taught.stream().allMatch(row -> isKind(row[0]));
            if (!known || opened.taught.size() > 40 || !opened.packed().equals(bytes)) {
                return -1;
            }
            taught.clear();
            taught.addAll(opened.taught);
            return taught.size();
        }
    }
}
