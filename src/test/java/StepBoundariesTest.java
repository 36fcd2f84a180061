/** The boundary cases of sources and steps: what they give, and which rows they ask for and take. */
public final class StepBoundariesTest {
    private static final int LEAST = Make.LEAST;
    private static final int GREATEST = Make.GREATEST;
    private static final Due due = new Due();

    /** Ways to a plan of rows of two cells from which no row comes, with the visits that they make. */
    private static final int[][] NO_ROWS = {
        {0, 1, 1}, {0, 2, 1, 0, LEAST, GREATEST}, {0, 2, 0, 1, 8, 9}, {0, 2, 0, 1, 7, 6},
        {4, 1, 0, 3, 0, 0, 0}, {0, 1, 0, 7, 0}, {4, 1, 0, 6, 4}, {4, 1, 0, 5, 1, 0, 0, 4, 2, 0, 1},
    };

    public static void main(String[] args) {
        sourceAll();
        sourceBetween();
        where();
        pick();
        join();
        skip();
        first();
        count();
        sum();
        groups();
        noRowComes();
        asking();
        visits();
        due.end();
    }

    /** Table 0: key and group, both indexed, four rows; table 1: the same without rows. */
    private static PlannedTables ofFour() {
        PlannedTables x = Make.tables(2, 2);
        x.index(0, 1);
        Make.put(x, 0, 3, 5);
        Make.put(x, 0, 1, 5);
        Make.put(x, 0, 4, 6);
        Make.put(x, 0, 2, 7);
        return x;
    }

    private static void gives(String what, PlannedTables x, int[] words, int visits, int... output) {
        Make.plan(x, words);
        due.gives(what, x, visits, output);
    }

    private static int[] words(int... words) {
        return words;
    }

    private static void sourceAll() {
        due.sentence("1 t: all rows of table t, by their keys", () -> {
            PlannedTables x = Make.tables(1, 2, 1);
            gives("of no rows", x, words(1, 1), 0);
            Make.put(x, 0, 50);
            Make.put(x, 2, 60);
            gives("of no rows beside tables with rows", x, words(1, 1), 0);
            Make.put(x, 1, 5, 9);
            gives("of one row", x, words(1, 1), 1, 5, 9);
            Make.put(x, 1, GREATEST, 8);
            Make.put(x, 1, -1, 7);
            Make.put(x, 1, LEAST, 6);
            Make.put(x, 1, 0, 5);
            gives("from the least int to the greatest", x, words(1, 1), 5,
                    LEAST, 6, -1, 7, 0, 5, 5, 9, GREATEST, 8);
        });
        due.sentence("1 t: by their keys, also when a plan by another column ran before", () -> {
            PlannedTables x = ofFour();
            gives("by column 1", x, words(2, 0, 1, 6, GREATEST), 2, 4, 6, 2, 7);
            gives("by the keys", x, words(1, 0), 4, 1, 5, 2, 7, 3, 5, 4, 6);
        });
        due.sentence("1 t: all rows of table t: 48", () -> {
            PlannedTables x = Make.tables(1);
            int[] all = new int[48];
            for (int k = 0; k < 48; k++) {
                Make.put(x, 0, k * 11 % 48);
                all[k] = k;
            }
            gives("48 rows", x, words(1, 0), 48, all);
        });
    }

    private static void sourceBetween() {
        due.sentence("2 t c a b: .. not below a and not above b", () -> {
            int[][] abAndKeys = {{10, 20, 10, 15, 20}, {9, 21, 10, 15, 20}, {11, 20, 15, 20}, {10, 19, 10, 15},
                {11, 19, 15}, {15, 15, 15}, {10, 10, 10}, {20, 20, 20}, {14, 14}, {16, 19}, {21, 22}, {8, 9},
                {21, GREATEST}, {20, GREATEST, 20}, {LEAST, 9}, {LEAST, 10, 10}, {LEAST, GREATEST, 10, 15, 20}};
            for (int[] i : abAndKeys) {
                int[] keys = java.util.Arrays.copyOfRange(i, 2, i.length);
                PlannedTables x = Make.keys(20, 10, 15);
                gives("keys from " + i[0] + " to " + i[1], x, words(2, 0, 0, i[0], i[1]), keys.length, keys);
                PlannedTables y = Make.tables(2);
                y.index(0, 1);
                Make.put(y, 0, 1, 20);
                Make.put(y, 0, 2, 10);
                Make.put(y, 0, 3, 15);
                gives("cells from " + i[0] + " to " + i[1], y, words(2, 0, 1, i[0], i[1], 4, 1, 1), keys.length, keys);
            }
        });
        due.sentence("2 t c a b: a above b", () -> {
            PlannedTables x = Make.keys(LEAST, 10, 15, 20, GREATEST);
            gives("just above", x, words(2, 0, 0, 16, 15), 0);
            gives("both are keys", x, words(2, 0, 0, 20, 10), 0);
            gives("the greatest and the least", x, words(2, 0, 0, GREATEST, LEAST), 0);
        });
        due.sentence("2 t c a b: the least int and the greatest", () -> {
            PlannedTables x = Make.keys(LEAST, -1, 0, GREATEST);
            gives("a and b the least", x, words(2, 0, 0, LEAST, LEAST), 1, LEAST);
            gives("a and b the greatest", x, words(2, 0, 0, GREATEST, GREATEST), 1, GREATEST);
            gives("all between", x, words(2, 0, 0, LEAST + 1, GREATEST - 1), 2, -1, 0);
            gives("all", x, words(2, 0, 0, LEAST, GREATEST), 4, LEAST, -1, 0, GREATEST);
        });
        due.sentence("2 t c a b: by that cell, of one cell by their keys", () -> {
            PlannedTables x = Make.tables(3);
            x.index(0, 2);
            Make.put(x, 0, 5, 1, 30);
            Make.put(x, 0, 4, 2, 20);
            Make.put(x, 0, -6, 3, 30);
            Make.put(x, 0, 9, 4, -20);
            Make.put(x, 0, 2, 5, 20);
            Make.put(x, 0, GREATEST, 6, 20);
            Make.put(x, 0, LEAST, 7, 20);
            gives("all", x, words(2, 0, 2, LEAST, GREATEST, 4, 2, 2, 0), 7,
                    -20, 9, 20, LEAST, 20, 2, 20, 4, 20, GREATEST, 30, -6, 30, 5);
            gives("of one cell", x, words(2, 0, 2, 20, 20, 4, 1, 0), 4, LEAST, 2, 4, GREATEST);
        });
    }

    private static void where() {
        due.sentence("3 c r v: less than v (r = 0), not more (1), the same (2), another one (3), not less (4),"
                + " or more (5)", () -> {
            int[][] want = {{8}, {8, 9}, {9}, {8, 10}, {9, 10}, {10}};
            for (int r = 0; r <= 5; r++) {
                PlannedTables x = Make.keys(8, 9, 10);
                gives("r " + r + " v 9", x, words(1, 0, 3, 0, r, 9), 3, want[r]);
            }
        });
        due.sentence("3 c r v: v the least int or the greatest", () -> {
            int[][] least = {{}, {LEAST}, {LEAST}, {0, GREATEST}, {LEAST, 0, GREATEST}, {0, GREATEST}};
            int[][] greatest = {{LEAST, 0}, {LEAST, 0, GREATEST}, {GREATEST}, {LEAST, 0}, {GREATEST}, {}};
            for (int r = 0; r <= 5; r++) {
                PlannedTables x = Make.keys(GREATEST, 0, LEAST);
                gives("r " + r + " v the least", x, words(1, 0, 3, 0, r, LEAST), 3, least[r]);
                gives("r " + r + " v the greatest", x, words(1, 0, 3, 0, r, GREATEST), 3, greatest[r]);
            }
        });
        due.sentence("3 c r v: in the first column and the last", () -> {
            PlannedTables x = ofFour();
            gives("the first", x, words(1, 0, 3, 0, 2, 2), 4, 2, 7);
            gives("the last", x, words(1, 0, 3, 1, 2, 6), 4, 4, 6);
            gives("none", x, words(1, 0, 3, 1, 2, 1), 4);
            gives("the last of eight", x, words(1, 0, 4, 8, 0, 0, 0, 0, 0, 0, 0, 1, 3, 7, 5, 6, 4, 1, 0), 4, 2);
        });
    }

    private static void pick() {
        due.sentence("4 n c1 .. cn (n from 1 to 8): rows of these cells, in this order; the width is n.", () -> {
            for (int n = 1; n <= 8; n++) {
                PlannedTables x = Make.tables(3);
                Make.put(x, 0, 5, 6, 7);
                Make.plan(x, 1, 0, 4, n);
                int[] want = new int[n];
                for (int i = 0; i < n; i++) {
                    x.word(2 - i % 3);
                    want[i] = 7 - i % 3;
                }
                due.same("width", x.width(), n);
                due.gives(n + " cells", x, 1, want);
            }
            PlannedTables x = ofFour();
            gives("one cell twice", x, words(1, 0, 7, 1, 4, 2, 1, 1), 1, 5, 5);
            gives("one of the cells picked", x, words(1, 0, 7, 1, 4, 2, 1, 0, 4, 1, 1), 1, 1);
        });
    }

    private static void join() {
        due.sentence("5 t d c: for each row of table t that has in its indexed column d what the row has in c", () -> {
            PlannedTables x = Make.tables(1, 2);
            x.index(1, 1);
            for (int key : new int[] {LEAST, 5, 6, 7, GREATEST}) {
                Make.put(x, 0, key);
            }
            gives("a table without rows", x, words(1, 0, 5, 1, 1, 0), 5);
            Make.put(x, 1, 60, 6);
            gives("one has it", x, words(1, 0, 5, 1, 1, 0), 6, 6, 60, 6);
            Make.put(x, 1, 80, 8);
            Make.put(x, 1, 40, 4);
            gives("cells that no row has", x, words(1, 0, 5, 1, 1, 0), 6, 6, 60, 6);
            Make.put(x, 1, 90, GREATEST);
            Make.put(x, 1, 10, LEAST);
            gives("the least and the greatest", x, words(1, 0, 5, 1, 1, 0), 8,
                    LEAST, 10, LEAST, 6, 60, 6, GREATEST, 90, GREATEST);
        });
        due.sentence("5 t d c: for each row, .. by their keys", () -> {
            PlannedTables x = Make.tables(1, 2);
            x.index(1, 1);
            Make.put(x, 0, 6);
            Make.put(x, 0, 3);
            Make.put(x, 1, GREATEST, 6);
            Make.put(x, 1, 2, 6);
            Make.put(x, 1, 9, 3);
            Make.put(x, 1, LEAST, 6);
            Make.put(x, 1, 1, 3);
            gives("by the rows, then by the keys", x, words(1, 0, 5, 1, 1, 0), 7,
                    3, 1, 3, 3, 9, 3, 6, LEAST, 6, 6, 2, 6, 6, GREATEST, 6);
        });
        due.sentence("5 t d c: for each row, also when rows that come are the same in c", () -> {
            PlannedTables x = ofFour();
            gives("each with both", x, words(1, 0, 3, 1, 2, 5, 5, 0, 1, 1, 4, 2, 0, 2), 8, 1, 1, 1, 3, 3, 1, 3, 3);
        });
        due.sentence("5 t d c: the row and behind it that one; the width is the sum of both", () -> {
            PlannedTables x = Make.tables(4, 4);
            Make.put(x, 0, 5, 1, 2, 3);
            Make.put(x, 1, 3, 7, 8, 9);
            gives("eight cells", x, words(1, 0, 5, 1, 0, 3), 2, 5, 1, 2, 3, 3, 7, 8, 9);
            gives("the last of the eight", x, words(1, 0, 4, 4, 0, 1, 2, 3, 5, 1, 0, 3, 9, 7), 2, 9);
            PlannedTables z = ofFour();
            gives("the row is the same for each, whatever the step behind does", z,
                    words(1, 0, 7, 1, 5, 0, 1, 1, 4, 4, 3, 2, 1, 0), 3, 5, 1, 5, 1, 5, 3, 5, 1);
            gives("and two steps behind", z, words(1, 0, 7, 1, 5, 0, 1, 1, 5, 0, 1, 1, 4, 3, 4, 2, 0), 7,
                    1, 1, 1, 3, 1, 1, 1, 3, 1, 3, 3, 1);
            PlannedTables y = Make.tables(1);
            Make.put(y, 0, 4);
            int[] plan = words(1, 0);
            for (int width = 2; width <= 8; width++) {
                plan = Make.join(plan, 5, 0, 0, width - 2);
                int[] want = new int[width];
                java.util.Arrays.fill(want, 4);
                gives("width " + width, y, plan, width, want);
            }
        });
    }

    private static void skip() {
        due.sentence("6 n: all rows but the first n (n not below 0)", () -> {
            for (int n : new int[] {0, 1, 2, 3, 4, 5, 48, GREATEST}) {
                PlannedTables x = ofFour();
                int[] all = {1, 2, 3, 4};
                gives("all but " + n, x, words(1, 0, 4, 1, 0, 6, n), 4,
                        java.util.Arrays.copyOfRange(all, Math.min(n, 4), 4));
            }
        });
        due.sentence("6 n: of one row and of none", () -> {
            PlannedTables x = ofFour();
            gives("all of one", x, words(1, 0, 8, 6, 0), 4, 4);
            gives("all but one of one", x, words(1, 0, 8, 6, 1), 4);
            gives("all of none", x, words(1, 1, 6, 0), 0);
            gives("all but one of none", x, words(1, 1, 6, 1), 0);
        });
    }

    private static void first() {
        due.sentence("7 n: only the first n (n not below 0)", () -> {
            for (int n : new int[] {0, 1, 2, 3, 4, 5, 48, GREATEST}) {
                PlannedTables x = ofFour();
                int[] all = {1, 2, 3, 4};
                gives("the first " + n, x, words(1, 0, 4, 1, 0, 7, n), Math.min(n, 4),
                        java.util.Arrays.copyOf(all, Math.min(n, 4)));
            }
        });
        due.sentence("7 n: of one row and of none", () -> {
            PlannedTables x = ofFour();
            gives("none of one", x, words(1, 0, 8, 7, 0), 0);
            gives("one of one", x, words(1, 0, 8, 7, 1), 4, 4);
            gives("two of one", x, words(1, 0, 8, 7, 2), 4, 4);
            gives("one of none", x, words(1, 1, 7, 1), 0);
        });
    }

    private static void count() {
        due.sentence("8: one row, of the width 1: how many rows came (0, too)", () -> {
            for (int n = 0; n <= 48; n++) {
                PlannedTables x = Make.tables(2);
                x.index(0, 1);
                for (int k = 0; k < n; k++) {
                    Make.put(x, 0, -k, 9);
                }
                gives(n + " rows", x, words(1, 0, 8), n, n);
                gives("each with each", x, words(1, 0, 5, 0, 1, 1, 8), n + n * n, n * n);
                due.same("one row of the width 1", x.width(), 1);
            }
        });
        due.sentence("8: how many rows came, more than the output has room for", () -> {
            PlannedTables x = Make.tables(2);
            x.index(0, 1);
            for (int k = 0; k < 48; k++) {
                Make.put(x, 0, k, 9);
            }
            int third = 48 * 48 * 48;
            gives("three times 48", x, words(1, 0, 5, 0, 1, 1, 5, 0, 1, 1, 8), 48 + 48 * 48 + third, third);
        });
    }

    private static void sumOf(int want, int... cells) {
        PlannedTables x = Make.tables(2);
        for (int k = 0; k < cells.length; k++) {
            Make.put(x, 0, k, cells[k]);
        }
        gives("the sum of " + java.util.Arrays.toString(cells), x, words(1, 0, 9, 1), cells.length, want);
    }

    private static void sum() {
        due.sentence("9 c: one row, of the width 1: the sum of the cells in c", () -> {
            sumOf(7, 7);
            sumOf(-7, -7);
            sumOf(0, 7, -7);
            sumOf(10, 1, 2, 3, 4);
            sumOf(LEAST, LEAST);
            sumOf(GREATEST, GREATEST);
            sumOf(-1, LEAST, GREATEST);
        });
        due.sentence("9 c: wrapping", () -> {
            sumOf(GREATEST, GREATEST, 0);
            sumOf(GREATEST, GREATEST - 1, 1);
            sumOf(LEAST, GREATEST, 1);
            sumOf(LEAST + 1, GREATEST, 2);
            sumOf(-2, GREATEST, GREATEST);
            sumOf(GREATEST - 2, GREATEST, GREATEST, GREATEST);
            sumOf(LEAST, LEAST + 1, -1);
            sumOf(GREATEST, LEAST, -1);
            sumOf(0, LEAST, LEAST);
            sumOf(LEAST, LEAST, LEAST, LEAST);
            sumOf(5, GREATEST, 1, LEAST, 5);
        });
        due.sentence("9 c: 0 of none", () -> {
            sumOf(0);
            PlannedTables x = ofFour();
            gives("of none that holds", x, words(1, 0, 3, 0, 0, 0, 9, 1), 4, 0);
            gives("one row of none", x, words(1, 1, 9, 0, 8), 0, 1);
        });
    }

    private static void groupsOf(int[] cells, int... want) {
        PlannedTables x = Make.tables(2);
        for (int k = 0; k < cells.length; k++) {
            Make.put(x, 0, k, cells[k]);
        }
        gives("the groups of " + java.util.Arrays.toString(cells), x, words(1, 0, 10, 1), cells.length, want);
    }

    private static void groups() {
        due.sentence("10 c: of rows next to each other with the same cell in c one row, of the width 2:"
                + " that cell, and how many they were", () -> {
            groupsOf(words(5), 5, 1);
            groupsOf(words(5, 5), 5, 2);
            groupsOf(words(5, 6), 5, 1, 6, 1);
            groupsOf(words(5, 5, 6), 5, 2, 6, 1);
            groupsOf(words(5, 6, 6), 5, 1, 6, 2);
            groupsOf(words(5, 5, 5, 5), 5, 4);
            groupsOf(words(6, 5, 4), 6, 1, 5, 1, 4, 1);
            groupsOf(words(0), 0, 1);
            groupsOf(words(0, 0, 1, 0), 0, 2, 1, 1, 0, 1);
            groupsOf(words(LEAST, LEAST, GREATEST, -1), LEAST, 2, GREATEST, 1, -1, 1);
        });
        due.sentence("10 c: next to each other", () -> {
            groupsOf(words(5, 6, 5), 5, 1, 6, 1, 5, 1);
            groupsOf(words(5, 5, 6, 5, 5, 5), 5, 2, 6, 1, 5, 3);
            PlannedTables x = ofFour();
            gives("by their keys", x, words(1, 0, 10, 1), 4, 5, 1, 7, 1, 5, 1, 6, 1);
            gives("by that cell", x, words(2, 0, 1, LEAST, GREATEST, 10, 1), 4, 5, 2, 6, 1, 7, 1);
            gives("next to each other behind step 3", x, words(1, 0, 3, 0, 3, 2, 10, 1), 4, 5, 2, 6, 1);
        });
        due.sentence("10 c: of none", () -> groupsOf(words()));
    }

    private static void noRowComes() {
        due.sentence("6 n, 7 n, 10 c and the others: no row when no row comes", () -> {
            int[][] steps = {{6, 0}, {6, 1}, {6, GREATEST}, {7, 1}, {7, GREATEST}, {10, 0}, {10, 1},
                {3, 0, 3, 99}, {4, 2, 1, 0}, {5, 0, 0, 0}, {10, 0, 10, 1}, {6, 1, 7, 1}, {10, 1, 6, 0, 7, 2}};
            for (int[] none : NO_ROWS) {
                int[] source = java.util.Arrays.copyOfRange(none, 1, none.length);
                for (int[] step : steps) {
                    int[] plan = Make.join(source, step);
                    gives(java.util.Arrays.toString(plan), ofFour(), plan, none[0]);
                }
                int[] plan = Make.join(source, 7, 0);
                gives(java.util.Arrays.toString(plan), ofFour(), plan, 0);
            }
        });
        due.sentence("8: (0, too); 9 c: (0 of none): one row when no row comes", () -> {
            int[][] steps = {{8}, {9, 0}, {9, 1}, {10, 0, 8}, {6, 2, 9, 1}, {7, 1, 8}, {8, 9, 0}, {9, 1, 9, 0}};
            for (int[] none : NO_ROWS) {
                int[] source = java.util.Arrays.copyOfRange(none, 1, none.length);
                for (int[] step : steps) {
                    int[] plan = Make.join(source, step);
                    gives(java.util.Arrays.toString(plan), ofFour(), plan, none[0], 0);
                }
                gives("that row counts", ofFour(), Make.join(source, 8, 8), none[0], 1);
                gives("that row is a group", ofFour(), Make.join(source, 9, 0, 10, 0), none[0], 0, 1);
                gives("that row is left out", ofFour(), Make.join(source, 8, 6, 1), none[0]);
            }
        });
    }

    private static void asking() {
        due.sentence("to run a plan is to ask its last step (or the source) for rows until there are no more", () -> {
            PlannedTables x = ofFour();
            gives("the source", x, words(1, 0), 4, 1, 5, 2, 7, 3, 5, 4, 6);
            gives("the last step", x, words(1, 0, 3, 0, 0, 3), 4, 1, 5, 2, 7);
            gives("until there are no more: none at once", x, words(1, 1), 0);
        });
        due.sentence("a step asks the one before it for a row only when it needs one to give one", () -> {
            PlannedTables x = ofFour();
            gives("step 3", x, words(1, 0, 3, 1, 2, 5, 7, 1), 1, 1, 5);
            gives("step 3 up to the second", x, words(1, 0, 3, 1, 2, 5, 7, 2), 3, 1, 5, 3, 5);
            gives("step 3 on to the end", x, words(1, 0, 3, 1, 2, 5, 7, 3), 4, 1, 5, 3, 5);
            gives("step 4", x, words(1, 0, 4, 1, 1, 7, 2), 2, 5, 7);
            gives("step 6", x, words(1, 0, 6, 1, 7, 1), 2, 2, 7);
            gives("step 6 of 0", x, words(1, 0, 6, 0, 7, 1), 1, 1, 5);
            gives("step 6 is not asked", x, words(1, 0, 6, 3, 7, 0), 0);
        });
        due.sentence("step 7 asks for none when it has given n", () -> {
            for (int n = 0; n <= 4; n++) {
                PlannedTables x = ofFour();
                Make.plan(x, 1, 0, 7, n, 9, 0);
                due.gives("the first " + n, x, n, n * (n + 1) / 2);
                Make.plan(x, 1, 0, 5, 0, 0, 0, 7, n, 8);
                due.gives("the first " + n + " of step 5", x, 2 * n, n);
                Make.plan(x, 1, 0, 7, 9, 7, n, 7, 9, 8);
                due.gives("of two more", x, n, n);
            }
            PlannedTables x = ofFour();
            gives("n is not reached", x, words(1, 0, 3, 1, 2, 5, 7, 3, 8), 4, 2);
            gives("steps 8 and 9 are not asked", x, words(1, 0, 8, 9, 0, 7, 0), 0);
            gives("step 10 is not asked", x, words(1, 0, 10, 0, 7, 0), 0);
        });
        due.sentence("step 5 takes the next row of table t before it asks again", () -> {
            PlannedTables x = ofFour();
            int[] plan = words(1, 0, 3, 1, 2, 5, 5, 0, 1, 1, 4, 2, 0, 2, 7);
            gives("the first of both", x, Make.join(plan, 1), 2, 1, 1);
            gives("the second, and no row more", x, Make.join(plan, 2), 3, 1, 1, 1, 3);
            gives("then two rows until one comes, and one of both", x, Make.join(plan, 3), 6, 1, 1, 1, 3, 3, 1);
            gives("both of both", x, Make.join(plan, 4), 7, 1, 1, 1, 3, 3, 1, 3, 3);
            gives("and on to the end", x, Make.join(plan, 5), 8, 1, 1, 1, 3, 3, 1, 3, 3);
        });
        due.sentence("steps 8, 9 and 10 ask for all there are", () -> {
            PlannedTables x = ofFour();
            gives("step 8", x, words(1, 0, 8, 7, 1), 4, 4);
            gives("step 9", x, words(1, 0, 9, 1, 7, 1), 4, 23);
            gives("step 10 of one cell", x, words(1, 0, 8, 10, 0, 7, 1), 4, 4, 1);
            gives("step 10", x, words(1, 0, 10, 1, 8), 4, 4);
        });
        due.sentence("10 for as many as it needs to know that a row is of another cell than those before", () -> {
            PlannedTables x = Make.tables(2);
            int[] cells = {5, 5, 6, 7, 7, 7};
            for (int k = 0; k < 6; k++) {
                Make.put(x, 0, k, cells[k]);
            }
            gives("no group", x, words(1, 0, 10, 1, 7, 0), 0);
            gives("a group of two and the row behind", x, words(1, 0, 10, 1, 7, 1), 3, 5, 2);
            gives("a group of one and the row behind", x, words(1, 0, 10, 1, 7, 2), 4, 5, 2, 6, 1);
            gives("the last group", x, words(1, 0, 10, 1, 7, 3), 6, 5, 2, 6, 1, 7, 3);
            gives("no row behind, and none is asked for", x, words(1, 0, 7, 2, 10, 1, 7, 1), 2, 5, 2);
        });
    }

    private static void visits() {
        due.sentence("A VISIT is a row that a source takes from its table", () -> {
            PlannedTables x = ofFour();
            gives("source 1 of no rows", x, words(1, 1, 8), 0, 0);
            gives("source 1", x, words(1, 0, 8), 4, 4);
            gives("source 2 takes only rows between", x, words(2, 0, 1, 6, 7, 8), 2, 2);
            gives("source 2 of none", x, words(2, 0, 1, 8, 9, 8), 0, 0);
            gives("a row that a step leaves out", x, words(1, 0, 3, 0, 0, 0, 8), 4, 0);
            gives("a row that step 6 leaves out", x, words(1, 0, 6, 9, 8), 4, 0);
        });
        due.sentence("A VISIT is .. or that step 5 takes from table t", () -> {
            PlannedTables x = ofFour();
            gives("one for each", x, words(1, 0, 5, 0, 0, 0, 8), 8, 4);
            gives("two for some", x, words(1, 0, 5, 0, 1, 1, 8), 10, 6);
            gives("none of a table without rows", x, words(1, 0, 5, 1, 0, 0, 8), 4, 0);
            gives("none has that", x, words(1, 0, 8, 5, 0, 1, 0, 8), 4, 0);
            gives("a second step 5", x, words(1, 0, 5, 0, 0, 0, 5, 0, 0, 0, 8), 12, 4);
        });
    }
}
