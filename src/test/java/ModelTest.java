import java.util.ArrayList;
import java.util.Arrays;
import java.util.Comparator;
import java.util.Iterator;
import java.util.List;
import java.util.NoSuchElementException;
import java.util.Random;
import java.util.TreeMap;
import java.util.TreeSet;
import java.util.function.Supplier;

/** Long runs of calls, beside a second program that was written from the document in another way. */
public final class ModelTest {
    private static final Due due = new Due();
    private static final int OBJECTS = 4000;
    private static final int CALLS = 512;
    /** What one planAndRun needs at most: words, and two runs whose output is read. */
    private static final int ONE_PLAN = 230;

    public static void main(String[] args) {
        for (int seed = 0; seed < OBJECTS; seed++) {
            new Pair(seed).play();
        }
        due.end();
    }

    /** The second program: rows in maps, and steps as iterators that pull from one another. */
    private static final class Model {
        final List<TreeMap<Integer, int[]>> tables = new ArrayList<>();
        final List<Integer> columns = new ArrayList<>();
        final List<TreeSet<Integer>> indexed = new ArrayList<>();
        final int[] staged = new int[4];
        final List<Integer> words = new ArrayList<>();
        List<Integer> output = new ArrayList<>();
        int visits = 0;
        private int spent;
        private int limit;

        int table(int n) {
            if (n < 1 || n > 4) throw new IllegalArgumentException();
            if (tables.size() == 4) throw new UnsupportedOperationException();
            tables.add(new TreeMap<>());
            columns.add(n);
            indexed.add(new TreeSet<>(List.of(0)));
            return tables.size() - 1;
        }

        private boolean noTable(int t) {
            return t < 0 || t >= tables.size();
        }

        private boolean noColumn(int t, int c) {
            return noTable(t) || c < 0 || c >= columns.get(t);
        }

        boolean index(int t, int c) {
            if (noColumn(t, c)) throw new IndexOutOfBoundsException();
            return indexed.get(t).add(c);
        }

        boolean stage(int c, int v) {
            if (c < 0 || c > 3) return false;
            staged[c] = v;
            return true;
        }

        int insert(int t) {
            if (noTable(t)) throw new IndexOutOfBoundsException();
            if (tables.get(t).containsKey(staged[0])) throw new IllegalStateException();
            if (tables.stream().mapToInt(TreeMap::size).sum() == 48) throw new UnsupportedOperationException();
            tables.get(t).put(staged[0], Arrays.copyOf(staged, columns.get(t)));
            return tables.get(t).size();
        }

        int delete(int t, int key) {
            if (noTable(t)) throw new IndexOutOfBoundsException();
            if (tables.get(t).remove(key) == null) throw new NoSuchElementException();
            return tables.get(t).size();
        }

        int cell(int t, int key, int c) {
            if (noColumn(t, c)) throw new IndexOutOfBoundsException();
            int[] row = tables.get(t).get(key);
            if (row == null) throw new NoSuchElementException();
            return row[c];
        }

        int keyFrom(int t, int from) {
            if (noTable(t)) throw new IndexOutOfBoundsException();
            Integer key = tables.get(t).ceilingKey(from);
            if (key == null) throw new NoSuchElementException();
            return key;
        }

        int rows(int t) {
            return noTable(t) ? -1 : tables.get(t).size();
        }

        boolean word(int w) {
            return words.size() < 40 && words.add(w);
        }

        int clear() {
            int had = words.size();
            words.clear();
            return had;
        }

        /** {fault, width}: looks at each word in turn, and knows what was awaited of it. */
        int[] look() {
            String awaited = "source";
            int width = 0;
            int t = 0;
            for (int i = 0; i < words.size(); i++) {
                int w = words.get(i);
                char now = awaited.equals("source") ? 'S' : awaited.isEmpty() ? 'K' : awaited.charAt(0);
                String rest = awaited.length() < 2 ? "" : awaited.substring(1);
                boolean fine;
                switch (now) {
                    case 'S':
                        fine = w == 1 || w == 2;
                        rest = w == 1 ? "t" : "tiaa";
                        break;
                    case 'K':
                        fine = w >= 3 && w <= 10;
                        rest = !fine ? "" : new String[] {"cra", "n", "jic", "m", "m", "1", "c1", "c2"}[w - 3];
                        break;
                    case 't':
                        fine = !noTable(w);
                        t = w;
                        width = fine ? columns.get(w) : 0;
                        break;
                    case 'j':
                        fine = !noTable(w) && width + columns.get(w) <= 8;
                        t = w;
                        rest = "iC";
                        break;
                    case 'i':
                        fine = !noColumn(t, w) && indexed.get(t).contains(w);
                        break;
                    case 'c':
                        fine = w >= 0 && w < width;
                        break;
                    case 'C':
                        fine = w >= 0 && w < width;
                        width += columns.get(t);
                        break;
                    case 'r':
                        fine = w >= 0 && w <= 5;
                        break;
                    case 'm':
                        fine = w >= 0;
                        break;
                    case 'n':
                        fine = w >= 1 && w <= 8;
                        rest = !fine ? "" : "cccccccc".substring(0, w) + "=" + w;
                        break;
                    default:
                        fine = true;
                        break;
                }
                if (!fine) return new int[] {i, -1};
                if (rest.startsWith("=")) {
                    width = rest.charAt(1) - '0';
                    rest = "";
                } else if (rest.equals("1") || rest.equals("2")) {
                    width = rest.charAt(0) - '0';
                    rest = "";
                }
                awaited = rest;
            }
            return awaited.isEmpty() ? new int[] {-1, width} : new int[] {words.size(), -1};
        }

        private static final class Dry extends RuntimeException {
            private static final long serialVersionUID = 1L;
        }

        private int[] visit(int[] row) {
            if (spent == limit) throw new Dry();
            spent++;
            return row;
        }

        /** An iterator from a function that answers null at the end. */
        private static Supplier<int[]> onceEnded(Supplier<int[]> rows) {
            return new Supplier<int[]>() {
                boolean ended = false;

                public int[] get() {
                    int[] row = ended ? null : rows.get();
                    ended = row == null;
                    return row;
                }
            };
        }

        private Supplier<int[]> taken(List<int[]> rows) {
            Iterator<int[]> all = rows.iterator();
            return () -> all.hasNext() ? visit(all.next()) : null;
        }

        private List<int[]> between(int t, int c, int a, int b) {
            List<int[]> found = new ArrayList<>();
            for (int[] row : tables.get(t).values()) {
                if (row[c] >= a && row[c] <= b) found.add(row);
            }
            found.sort(Comparator.comparingInt(row -> row[c]));
            return found;
        }

        private Supplier<int[]> pipeline() {
            int i = words.get(0) == 1 ? 2 : 5;
            int source = words.get(1);
            Supplier<int[]> rows = onceEnded(words.get(0) == 1
                    ? taken(new ArrayList<>(tables.get(source).values()))
                    : taken(between(source, words.get(2), words.get(3), words.get(4))));
            while (i < words.size()) {
                int kind = words.get(i);
                int long1 = kind == 4 ? 2 + words.get(i + 1) : new int[] {4, 0, 4, 2, 2, 1, 2, 2}[kind - 3];
                rows = onceEnded(step(kind, new ArrayList<>(words.subList(i + 1, i + long1)), rows));
                i += long1;
            }
            return rows;
        }

        private Supplier<int[]> step(int kind, List<Integer> w, Supplier<int[]> before) {
            switch (kind) {
                case 3:
                    return () -> {
                        int[] row = before.get();
                        while (row != null && !compare(row[w.get(0)], w.get(1), w.get(2))) row = before.get();
                        return row;
                    };
                case 4:
                    return () -> {
                        int[] row = before.get();
                        return row == null ? null : w.subList(1, w.size()).stream().mapToInt(c -> row[c]).toArray();
                    };
                case 5:
                    return joined(w, before);
                case 6:
                    return skipped(w.get(0), before);
                case 7: {
                    int[] given = {0};
                    return () -> given[0]++ < w.get(0) ? before.get() : null;
                }
                case 8:
                    return folded(before, -1);
                case 9:
                    return folded(before, w.get(0));
                default:
                    return grouped(w.get(0), before);
            }
        }

        private static boolean compare(int cell, int r, int v) {
            int sign = Integer.compare(cell, v);
            return new boolean[] {sign < 0, sign <= 0, sign == 0, sign != 0, sign >= 0, sign > 0}[r];
        }

        private Supplier<int[]> joined(List<Integer> w, Supplier<int[]> before) {
            return new Supplier<int[]>() {
                int[] left = null;
                Supplier<int[]> right = () -> null;

                public int[] get() {
                    int[] other = right.get();
                    while (other == null) {
                        left = before.get();
                        if (left == null) return null;
                        int cell = left[w.get(2)];
                        right = taken(between(w.get(0), w.get(1), cell, cell));
                        other = right.get();
                    }
                    int[] both = Arrays.copyOf(left, left.length + other.length);
                    System.arraycopy(other, 0, both, left.length, other.length);
                    return both;
                }
            };
        }

        private static Supplier<int[]> skipped(int n, Supplier<int[]> before) {
            boolean[] begun = {false};
            return () -> {
                int[] row = before.get();
                for (int i = 0; i < n && !begun[0] && row != null; i++) row = before.get();
                begun[0] = true;
                return row;
            };
        }

        private static Supplier<int[]> folded(Supplier<int[]> before, int column) {
            boolean[] given = {false};
            return () -> {
                if (given[0]) return null;
                given[0] = true;
                int sum = 0;
                for (int[] row = before.get(); row != null; row = before.get()) sum += column < 0 ? 1 : row[column];
                return new int[] {sum};
            };
        }

        private static Supplier<int[]> grouped(int c, Supplier<int[]> before) {
            return new Supplier<int[]>() {
                boolean begun = false;
                int[] ahead = null;

                public int[] get() {
                    if (!begun) ahead = before.get();
                    begun = true;
                    if (ahead == null) return null;
                    int cell = ahead[c];
                    int many = 0;
                    while (ahead != null && ahead[c] == cell) {
                        many++;
                        ahead = before.get();
                    }
                    return new int[] {cell, many};
                }
            };
        }

        int run(int fuel) {
            output = new ArrayList<>();
            if (look()[0] != -1 || fuel < 0) throw new IllegalArgumentException();
            spent = 0;
            limit = fuel;
            List<Integer> cells = new ArrayList<>();
            int rows = 0;
            try {
                Supplier<int[]> all = pipeline();
                for (int[] row = all.get(); row != null; row = all.get()) {
                    if (cells.size() + row.length > 64) throw new UnsupportedOperationException();
                    for (int cell : row) cells.add(cell);
                    rows++;
                }
            } catch (Dry e) {
                throw new IllegalStateException();
            }
            output = cells;
            visits = spent;
            return rows;
        }

        int out(int i) {
            return i >= 0 && i < output.size() ? output.get(i) : 0;
        }
    }

    /** One object of each, given the same calls. */
    private static final class Pair {
        private final int seed;
        private final Random dice;
        private final PlannedTables x = new PlannedTables();
        private final Model m = new Model();
        private int calls = 0;
        private final int cellRange;

        Pair(int seed) {
            this.seed = seed;
            dice = new Random(seed);
            cellRange = new int[] {2, 4, 8, 60}[seed % 4];
        }

        private void same(String call, Supplier<Integer> got, Supplier<Integer> want) {
            calls++;
            due.same("seed " + seed + " call " + calls + " " + call + " with " + m.words, answer(got), answer(want));
        }

        /** An exception counts as a number beyond all ints. */
        private static long answer(Supplier<Integer> call) {
            try {
                return call.get();
            } catch (IllegalArgumentException e) {
                return 1L << 40;
            } catch (IllegalStateException e) {
                return 2L << 40;
            } catch (IndexOutOfBoundsException e) {
                return 3L << 40;
            } catch (NoSuchElementException e) {
                return 4L << 40;
            } catch (UnsupportedOperationException e) {
                return 5L << 40;
            }
        }

        void play() {
            int tables = 1 + dice.nextInt(4);
            for (int t = 0; t < tables; t++) {
                table(dice.nextInt(8) == 0 ? number(9) : 1 + dice.nextInt(4));
            }
            while (calls < CALLS - ONE_PLAN) {
                int kind = dice.nextInt(20);
                if (kind < 7) {
                    row();
                } else if (kind < 8) {
                    odd();
                } else if (kind < 10) {
                    int t = someTable();
                    int c = dice.nextInt(5) - (dice.nextInt(9) == 0 ? 1 : 0);
                    same("index " + t + " " + c, () -> x.index(t, c) ? 1 : 0, () -> m.index(t, c) ? 1 : 0);
                } else if (kind < 11) {
                    int t = someTable();
                    int key = someCell();
                    same("delete " + t + " " + key, () -> x.delete(t, key), () -> m.delete(t, key));
                } else {
                    planAndRun();
                }
            }
        }

        private int number(int n) {
            return dice.nextInt(n) - 2;
        }

        private int someTable() {
            return dice.nextInt(30) == 0 ? number(8) : dice.nextInt(Math.max(1, m.tables.size()));
        }

        private int someCell() {
            int kind = dice.nextInt(40);
            return kind == 0 ? Integer.MIN_VALUE : kind == 1 ? Integer.MAX_VALUE : dice.nextInt(cellRange) - cellRange / 4;
        }

        private void table(int n) {
            same("table " + n, () -> x.table(n), () -> m.table(n));
        }

        private void stage(int c, int v) {
            same("stage " + c + " " + v, () -> x.stage(c, v) ? 1 : 0, () -> m.stage(c, v) ? 1 : 0);
        }

        private void row() {
            int t = someTable();
            stage(0, dice.nextInt(4) == 0 ? someCell() : dice.nextInt(60) - 5);
            for (int c = 1; c < 4; c++) {
                if (dice.nextInt(2) == 0) {
                    stage(c, someCell());
                }
            }
            same("insert " + t, () -> x.insert(t), () -> m.insert(t));
        }

        private void odd() {
            int t = someTable();
            int key = someCell();
            int c = number(7);
            same("cell " + t + " " + key + " " + c, () -> x.cell(t, key, c), () -> m.cell(t, key, c));
            same("keyFrom " + t + " " + key, () -> x.keyFrom(t, key), () -> m.keyFrom(t, key));
            same("rows " + t, () -> x.rows(t), () -> m.rows(t));
            stage(c, key);
            if (dice.nextInt(6) == 0) {
                table(1 + dice.nextInt(5));
            }
        }

        private void word(int w) {
            same("word " + w, () -> x.word(w) ? 1 : 0, () -> m.word(w) ? 1 : 0);
        }

        private void planAndRun() {
            if (dice.nextInt(8) != 0) {
                same("clear", x::clear, m::clear);
                int source = someTable();
                if (dice.nextInt(3) == 0) {
                    word(2);
                    word(source);
                    word(someIndexed(source));
                    word(someCell());
                    word(dice.nextInt(3) == 0 ? Integer.MAX_VALUE : someCell());
                } else {
                    word(dice.nextInt(40) == 0 ? number(14) : 1);
                    word(source);
                }
            }
            int steps = dice.nextInt(6);
            for (int s = 0; s < steps && calls < CALLS - ONE_PLAN + 70; s++) {
                step();
            }
            if (dice.nextInt(25) == 0) {
                word(someCell());
            }
            same("fault", x::fault, () -> m.look()[0]);
            same("width", x::width, () -> m.look()[1]);
            runWith(dice.nextInt(3) == 0 ? 20000 : dice.nextInt(60) - 1);
            if (dice.nextInt(2) == 0) {
                runWith(m.visits + dice.nextInt(2) - 1);
            }
        }

        private void runWith(int fuel) {
            same("run " + fuel, () -> x.run(fuel), () -> m.run(fuel));
            same("visits", x::visits, () -> m.visits);
            same("size", x::size, () -> m.output.size());
            int many = m.output.size() + 2;
            int[] got = new int[many];
            int[] want = new int[many];
            for (int i = 0; i < many; i++) {
                got[i] = x.out(i - 1);
                want[i] = m.out(i - 1);
            }
            calls += many;
            due.holds("seed " + seed + " output of " + m.words, Arrays.equals(got, want));
        }

        private int someIndexed(int t) {
            if (dice.nextInt(20) == 0 || t < 0 || t >= m.tables.size()) {
                return number(7);
            }
            List<Integer> all = new ArrayList<>(m.indexed.get(t));
            return all.get(dice.nextInt(all.size()));
        }

        private int someColumn() {
            int width = m.look()[1];
            return dice.nextInt(25) == 0 || width < 1 ? number(10) : dice.nextInt(width);
        }

        private void step() {
            int column = someColumn();
            int other = someColumn();
            int kind = dice.nextInt(40) == 0 ? number(14) : 3 + dice.nextInt(8);
            word(kind);
            switch (kind) {
                case 3:
                    word(column);
                    word(dice.nextInt(25) == 0 ? number(9) : dice.nextInt(6));
                    word(someCell());
                    break;
                case 4:
                    int n = dice.nextInt(25) == 0 ? number(12) : 1 + dice.nextInt(3);
                    word(n);
                    for (int i = 0; i < n; i++) {
                        word(i % 2 == 0 ? column : other);
                    }
                    break;
                case 5:
                    int t = someTable();
                    word(t);
                    word(someIndexed(t));
                    word(column);
                    break;
                case 6:
                case 7:
                    word(dice.nextInt(25) == 0 ? number(4) : dice.nextInt(6));
                    break;
                case 9:
                case 10:
                    word(column);
                    break;
                default:
                    break;
            }
        }
    }
}
