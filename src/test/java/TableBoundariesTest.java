import java.util.NoSuchElementException;

/** The boundary cases of tables and rows: each sentence of the terms and of promises 1 to 9 by itself. */
public final class TableBoundariesTest {
    private static final int LEAST = Make.LEAST;
    private static final int GREATEST = Make.GREATEST;
    private static final Class<IllegalArgumentException> ARGUMENT = IllegalArgumentException.class;
    private static final Class<IllegalStateException> STATE = IllegalStateException.class;
    private static final Class<IndexOutOfBoundsException> BOUNDS = IndexOutOfBoundsException.class;
    private static final Class<NoSuchElementException> NO_ELEMENT = NoSuchElementException.class;
    private static final Class<UnsupportedOperationException> UNSUPPORTED = UnsupportedOperationException.class;
    private static final Due due = new Due();

    public static void main(String[] args) {
        terms();
        newObject();
        table();
        index();
        stage();
        insert();
        delete();
        cell();
        keyFrom();
        rows();
        due.end();
    }

    private static void terms() {
        due.sentence("TABLES are 0 .. 3 in the order in which they were made", TableBoundariesTest::tableNumbers);
        due.sentence("each has 1 .. 4 COLUMNS, numbered from 0", TableBoundariesTest::columnNumbers);
        due.sentence("rows of as many CELLS (ints)", TableBoundariesTest::cellsAreInts);
        due.sentence("The cell in column 0 is a row's KEY", TableBoundariesTest::columnZeroIsTheKey);
        due.sentence("no two rows of a table have the same", TableBoundariesTest::keysDiffer);
        due.sentence("There are at most 48 rows in all tables together.", TableBoundariesTest::fortyEightRows);
        due.sentence("column 0 always is", TableBoundariesTest::columnZeroIsIndexed);
        due.sentence("THE STAGED ROW has 4 cells, 0 at first.", TableBoundariesTest::stagedAtFirst);
    }

    private static void tableNumbers() {
        int[] columns = {3, 1, 4, 2};
        PlannedTables x = new PlannedTables();
        for (int made = 0; made <= 4; made++) {
            for (int t : new int[] {LEAST, -1, 0, 1, 2, 3, 4, 5, GREATEST}) {
                boolean there = t >= 0 && t < made;
                due.same("rows(" + t + ") of " + made + " tables", x.rows(t), there ? 0 : -1);
                Make.plan(x, 1, t);
                due.same("width of table " + t + " of " + made, x.width(), there ? columns[t] : -1);
            }
            if (made < 4) {
                due.same("table number", x.table(columns[made]), made);
            }
        }
    }

    private static void columnNumbers() {
        for (int n = 1; n <= 4; n++) {
            int columns = n;
            PlannedTables x = Make.tables(n);
            Make.put(x, 0, 10, 11, 12, 13);
            for (int c : new int[] {LEAST, -1, n, n + 1, GREATEST}) {
                String column = "column " + c + " of " + columns;
                due.refused("index, " + column, BOUNDS, () -> x.index(0, c));
                due.refused("cell, " + column, BOUNDS, () -> x.cell(0, 10, c));
            }
            for (int c = 0; c < n; c++) {
                due.same("index, column " + c + " of " + columns, x.index(0, c), c != 0);
                due.same("cell, column " + c + " of " + columns, x.cell(0, 10, c), 10 + c);
            }
        }
    }

    private static void cellsAreInts() {
        int[] ints = {LEAST, LEAST + 1, -1, 0, 1, GREATEST - 1, GREATEST};
        PlannedTables x = Make.tables(4);
        for (int i = 0; i < ints.length; i++) {
            Make.put(x, 0, ints[i], ints[ints.length - 1 - i], ints[0], ints[i]);
        }
        for (int i = 0; i < ints.length; i++) {
            due.same("key", x.keyFrom(0, ints[i]), ints[i]);
            due.same("cell 0", x.cell(0, ints[i], 0), ints[i]);
            due.same("cell 1", x.cell(0, ints[i], 1), ints[ints.length - 1 - i]);
            due.same("cell 2", x.cell(0, ints[i], 2), LEAST);
            due.same("cell 3", x.cell(0, ints[i], 3), ints[i]);
        }
    }

    private static void columnZeroIsTheKey() {
        PlannedTables x = Make.tables(2);
        Make.put(x, 0, 4, 5);
        due.same("the row by its cell in column 0", x.cell(0, 4, 1), 5);
        due.refused("by its cell in column 1", NO_ELEMENT, () -> x.cell(0, 5, 1));
        Make.put(x, 0, 5, 4);
        due.same("a row whose key is a cell of the other", x.cell(0, 5, 1), 4);
        Make.put(x, 0, 6, 4);
        due.same("the same cell in column 1 twice is fine", x.rows(0), 3);
    }

    private static void keysDiffer() {
        for (int key : new int[] {LEAST, -1, 0, 1, 7, GREATEST}) {
            PlannedTables x = Make.tables(2, 2);
            Make.put(x, 0, key, 1);
            Make.stage(x, key, 2);
            due.refused("key " + key + " twice", STATE, () -> x.insert(0));
            due.same("key " + key + " in another table", x.insert(1), 1);
            if (key > LEAST) {
                Make.stage(x, key - 1, 1);
                due.same("the key below " + key, x.insert(0), 2);
            }
            if (key < GREATEST) {
                int before = x.rows(0);
                Make.stage(x, key + 1, 1);
                due.same("the key above " + key, x.insert(0), before + 1);
            }
            Make.stage(x, key, 2);
            due.refused("key " + key + " among others", STATE, () -> x.insert(0));
            int before = x.rows(0);
            x.delete(0, key);
            due.same("key " + key + " when it was taken away", x.insert(0), before);
        }
    }

    private static void fortyEightRows() {
        int[][] shares = {{48}, {0, 48}, {12, 12, 12, 12}, {47, 1}, {1, 47}, {16, 16, 16}, {24, 24, 0, 0}, {0, 0, 0, 48}};
        for (int[] share : shares) {
            int[] columns = new int[share.length];
            java.util.Arrays.fill(columns, 2);
            fillUp(Make.tables(columns), share);
        }
    }

    private static void fillUp(PlannedTables x, int[] share) {
        String what = " of " + java.util.Arrays.toString(share);
        int put = 0;
        for (int t = 0; t < share.length; t++) {
            for (int k = 0; k < share[t]; k++) {
                x.stage(0, 1000 * t + k * 29 % 48);
                put++;
                due.same("row " + put + what, x.insert(t), k + 1);
            }
        }
        x.stage(0, -1);
        for (int t = 0; t < share.length; t++) {
            int table = t;
            due.refused("row 49 in table " + t + what, UNSUPPORTED, () -> x.insert(table));
            due.same("rows of table " + t + what, x.rows(t), share[t]);
        }
        int from = share[0] > 0 ? 0 : share.length - 1;
        x.delete(from, x.keyFrom(from, LEAST));
        due.same("row 48 again, in the last table" + what, x.insert(share.length - 1),
                share[share.length - 1] + (from == share.length - 1 ? 0 : 1));
        x.stage(0, -2);
        due.refused("row 49 again" + what, UNSUPPORTED, () -> x.insert(0));
    }

    private static void columnZeroIsIndexed() {
        PlannedTables x = Make.tables(1, 2, 3, 4);
        for (int t = 0; t < 4; t++) {
            due.fault(x, -1, 2, t, 0, 0, 0);
            due.fault(x, -1, 1, t, 5, t, 0, 0);
            for (int c = 1; c <= t; c++) {
                due.fault(x, 2, 2, t, c, 0, 0);
                due.fault(x, 4, 1, t, 5, t, c, 0);
            }
            due.same("index(" + t + ", 0)", x.index(t, 0), false);
        }
    }

    private static void stagedAtFirst() {
        PlannedTables x = Make.tables(4, 1);
        due.same("a row that nobody staged", x.insert(0), 1);
        for (int c = 0; c < 4; c++) {
            due.same("its cell " + c, x.cell(0, 0, c), 0);
        }
        due.same("stage(-1, 9)", x.stage(-1, 9), false);
        due.same("stage(4, 9)", x.stage(4, 9), false);
        for (int c = 0; c < 4; c++) {
            due.same("stage(" + c + ", 9)", x.stage(c, 9), true);
        }
        x.insert(0);
        for (int c = 0; c < 4; c++) {
            due.same("then its cell " + c, x.cell(0, 9, c), 9);
        }
    }

    private static void newObject() {
        due.sentence("PlannedTables(): No tables, no plan, no output.", () -> {
            PlannedTables x = new PlannedTables();
            for (int t = -1; t <= 4; t++) {
                int table = t;
                due.same("rows(" + t + ")", x.rows(t), -1);
                due.refused("index(" + t + ", 0)", BOUNDS, () -> x.index(table, 0));
                due.refused("insert(" + t + ")", BOUNDS, () -> x.insert(table));
                due.refused("delete(" + t + ", 0)", BOUNDS, () -> x.delete(table, 0));
                due.refused("cell(" + t + ", 0, 0)", BOUNDS, () -> x.cell(table, 0, 0));
                due.refused("keyFrom(" + t + ", 0)", BOUNDS, () -> x.keyFrom(table, 0));
            }
            due.same("size()", x.size(), 0);
            for (int i = -1; i <= 64; i++) {
                due.same("out(" + i + ")", x.out(i), 0);
            }
            due.same("fault()", x.fault(), 0);
            due.same("width()", x.width(), -1);
            due.same("visits()", x.visits(), 0);
            due.same("clear()", x.clear(), 0);
            due.same("the first table", x.table(1), 0);
        });
        due.sentence("public static final int NONE = -1", () -> due.same("NONE", PlannedTables.NONE, -1));
    }

    private static void table() {
        due.sentence("table: Makes a table. Answers its number.", () -> {
            PlannedTables x = new PlannedTables();
            for (int t = 0; t < 4; t++) {
                due.same("its number", x.table(4 - t), t);
                due.same("it has no rows", x.rows(t), 0);
                due.same("there is no more than it", x.rows(t + 1), -1);
            }
        });
        due.sentence("table: IllegalArgumentException: columns is not 1 .. 4", () -> {
            PlannedTables x = new PlannedTables();
            for (int n : new int[] {LEAST, -1, 0, 5, 6, GREATEST}) {
                due.refused("table(" + n + ")", ARGUMENT, () -> x.table(n));
                due.same("no table was made by table(" + n + ")", x.rows(0), -1);
            }
            for (int n = 1; n <= 4; n++) {
                due.same("table(" + n + ")", x.table(n), n - 1);
            }
        });
        due.sentence("table: UnsupportedOperationException: there are 4", () -> {
            for (int n = 1; n <= 4; n++) {
                int columns = n;
                PlannedTables x = Make.tables(1, 1, 1);
                due.same("a fourth table(" + n + ")", x.table(n), 3);
                due.refused("a fifth table(" + n + ")", UNSUPPORTED, () -> x.table(columns));
                due.refused("a fifth table(" + n + ") again", UNSUPPORTED, () -> x.table(columns));
                due.same("there is no fifth", x.rows(4), -1);
                Make.plan(x, 1, 3);
                due.same("the fourth is as it was", x.width(), n);
            }
        });
    }

    private static void index() {
        due.sentence("index: The column of the table is indexed from now on.", () -> {
            PlannedTables x = Make.tables(3, 3);
            Make.put(x, 0, 1, 8, 5);
            Make.put(x, 0, 2, 7, 6);
            due.fault(x, 2, 2, 0, 2, LEAST, GREATEST);
            x.index(0, 2);
            due.fault(x, 2, 2, 0, 1, LEAST, GREATEST);
            due.fault(x, 2, 2, 1, 2, LEAST, GREATEST);
            due.fault(x, -1, 2, 0, 2, LEAST, GREATEST);
            Make.put(x, 0, 3, 6, 4);
            due.gives("rows of before and after", x, 3, 3, 6, 4, 1, 8, 5, 2, 7, 6);
            x.delete(0, 3);
            x.delete(0, 1);
            x.delete(0, 2);
            due.gives("a column stays indexed without rows", x, 0);
            due.same("and is already", x.index(0, 2), false);
        });
        due.sentence("index: Answers true; false when it was already.", () -> {
            PlannedTables x = Make.tables(4, 4);
            for (int t = 0; t < 2; t++) {
                due.same("column 0", x.index(t, 0), false);
                for (int c = 1; c < 4; c++) {
                    due.same("first", x.index(t, c), true);
                    due.same("second", x.index(t, c), false);
                    due.same("third", x.index(t, c), false);
                }
            }
        });
        due.sentence("index: IndexOutOfBoundsException: there is no such table or column", () -> {
            PlannedTables x = Make.tables(2, 4);
            int[][] none = {{-1, 0}, {2, 0}, {3, 0}, {4, 0}, {LEAST, 0}, {GREATEST, 0}, {-1, -1}, {2, 4},
                {0, -1}, {0, 2}, {0, 3}, {0, 4}, {0, LEAST}, {0, GREATEST}, {1, -1}, {1, 4}};
            for (int[] i : none) {
                due.refused("index(" + i[0] + ", " + i[1] + ")", BOUNDS, () -> x.index(i[0], i[1]));
            }
            due.same("the last column of table 0", x.index(0, 1), true);
            due.same("the last column of table 1", x.index(1, 3), true);
            x.table(3);
            due.same("a table made since", x.index(2, 2), true);
        });
    }

    private static void stage() {
        due.sentence("stage: Cell c of the staged row becomes v.", () -> {
            PlannedTables x = Make.tables(4);
            for (int c = 0; c < 4; c++) {
                for (int v : new int[] {LEAST, -1, 0, 1, GREATEST}) {
                    int[] want = {50, 51, 52, 53};
                    Make.stage(x, want);
                    due.same("stage(" + c + ", " + v + ")", x.stage(c, v), true);
                    want[c] = v;
                    x.insert(0);
                    for (int i = 0; i < 4; i++) {
                        due.same("cell " + i + " then", x.cell(0, want[0], i), want[i]);
                    }
                    x.delete(0, want[0]);
                }
            }
        });
        due.sentence("stage: Answers true; false when c is not 0 .. 3.", () -> {
            PlannedTables x = Make.tables(4);
            Make.stage(x, 50, 51, 52, 53);
            for (int c : new int[] {LEAST, -2, -1, 4, 5, GREATEST}) {
                due.same("stage(" + c + ", 9)", x.stage(c, 9), false);
            }
            x.insert(0);
            for (int c = 0; c < 4; c++) {
                due.same("cell " + c + " is as it was", x.cell(0, 50, c), 50 + c);
                due.same("stage(" + c + ", 9)", x.stage(c, 9), true);
            }
        });
    }

    private static void insert() {
        due.sentence("insert: The first cells of the staged row, as many as the table has columns", () -> {
            PlannedTables x = Make.tables(1, 2, 3, 4);
            Make.stage(x, 5, 6, 7, 8);
            for (int t = 0; t < 4; t++) {
                int table = t;
                due.same("insert(" + t + ")", x.insert(t), 1);
                for (int c = 0; c <= t; c++) {
                    due.same("cell " + c, x.cell(t, 5, c), 5 + c);
                }
                due.refused("no cell more", BOUNDS, () -> x.cell(table, 5, table + 1));
                Make.plan(x, 1, t);
                x.run(1);
                due.same("size of the row", x.size(), t + 1);
            }
            x.stage(1, 60);
            due.same("a row that is in stays as it was", x.cell(1, 5, 1), 6);
        });
        due.sentence("insert: Answers how many rows it has.", () -> {
            PlannedTables x = Make.tables(1, 1);
            for (int k = 0; k < 30; k++) {
                x.stage(0, 30 - k);
                due.same("in table 1", x.insert(1), k + 1);
                if (k < 18) {
                    due.same("in table 0", x.insert(0), k + 1);
                }
            }
        });
        due.sentence("insert: IndexOutOfBoundsException: there is no such table", () -> {
            PlannedTables x = Make.tables(1, 1, 1);
            for (int t : new int[] {LEAST, -1, 3, 4, GREATEST}) {
                due.refused("insert(" + t + ")", BOUNDS, () -> x.insert(t));
            }
            due.same("insert(0)", x.insert(0), 1);
            due.same("insert(2)", x.insert(2), 1);
            x.table(1);
            due.same("insert(3)", x.insert(3), 1);
        });
        due.sentence("insert: IllegalStateException: it has a row with this key", () -> {
            PlannedTables x = Make.tables(3);
            for (int k = 0; k < 20; k++) {
                Make.put(x, 0, 10 * k, k, -k);
            }
            for (int k = 0; k < 20; k++) {
                Make.stage(x, 10 * k, 77, 78);
                due.refused("key " + 10 * k, STATE, () -> x.insert(0));
                due.same("its row is as it was", x.cell(0, 10 * k, 1), k);
                due.same("none came", x.rows(0), 20);
            }
            Make.stage(x, 9);
            due.same("the key below one", x.insert(0), 21);
            Make.stage(x, 11);
            due.same("the key above one", x.insert(0), 22);
        });
        due.sentence("insert: UnsupportedOperationException: there are 48 rows", () -> {
            PlannedTables x = Make.tables(1, 1);
            for (int k = 0; k < 47; k++) {
                Make.put(x, k % 2, k);
            }
            x.stage(0, 100);
            due.same("the 48th", x.insert(1), 24);
            x.stage(0, 101);
            due.refused("a 49th in table 0", UNSUPPORTED, () -> x.insert(0));
            due.refused("a 49th in table 1", UNSUPPORTED, () -> x.insert(1));
            due.same("rows(0)", x.rows(0), 24);
            due.same("rows(1)", x.rows(1), 24);
            due.refused("it is not in", NO_ELEMENT, () -> x.cell(0, 101, 0));
            x.table(1);
            due.refused("a 49th in a new table", UNSUPPORTED, () -> x.insert(2));
            x.delete(0, 0);
            due.same("a 48th again", x.insert(2), 1);
            x.stage(0, 102);
            due.refused("a 49th again", UNSUPPORTED, () -> x.insert(2));
        });
    }

    private static void delete() {
        due.sentence("delete: Takes the row with a key away. Answers how many rows the table has.", () -> {
            for (int gone = 0; gone < 5; gone++) {
                PlannedTables x = Make.tables(2, 1);
                x.index(0, 1);
                for (int k = 0; k < 5; k++) {
                    Make.put(x, 0, k * 3 % 5, -(k * 3 % 5));
                }
                Make.put(x, 1, gone);
                due.same("delete(0, " + gone + ")", x.delete(0, gone), 4);
                due.same("rows(0)", x.rows(0), 4);
                due.same("rows(1)", x.rows(1), 1);
                due.same("the other table has its row", x.keyFrom(1, LEAST), gone);
                for (int k = 0; k < 5; k++) {
                    int key = k;
                    if (k == gone) {
                        due.refused("the row is away", NO_ELEMENT, () -> x.cell(0, key, 1));
                    } else {
                        due.same("another row is as it was", x.cell(0, k, 1), -k);
                        Make.plan(x, 2, 0, 1, -k, -k);
                        due.gives("and in its index", x, 1, k, -k);
                    }
                }
                Make.plan(x, 2, 0, 1, -gone, -gone);
                due.gives("the index has none", x, 0);
            }
        });
        due.sentence("delete: down to the last row of 48", () -> {
            PlannedTables x = Make.tables(1);
            for (int k = 0; k < 48; k++) {
                Make.put(x, 0, k);
            }
            for (int k = 0; k < 48; k++) {
                int key = k * 5 % 48;
                due.same("delete " + key, x.delete(0, key), 47 - k);
                due.refused("delete " + key + " twice", NO_ELEMENT, () -> x.delete(0, key));
            }
            due.same("a row in the empty table", x.insert(0), 1);
        });
        due.sentence("delete: IndexOutOfBoundsException: there is no such table", () -> {
            PlannedTables x = Make.tables(1, 1);
            x.insert(0);
            x.insert(1);
            for (int t : new int[] {LEAST, -1, 2, 3, 4, GREATEST}) {
                due.refused("delete(" + t + ", 0)", BOUNDS, () -> x.delete(t, 0));
            }
            due.same("delete(1, 0)", x.delete(1, 0), 0);
            due.same("delete(0, 0)", x.delete(0, 0), 0);
        });
        due.sentence("delete: NoSuchElementException: it has no such row", () -> {
            PlannedTables x = Make.tables(2, 1);
            due.refused("of an empty table", NO_ELEMENT, () -> x.delete(0, 0));
            Make.put(x, 0, 5, 6);
            Make.put(x, 0, 8, 9);
            Make.put(x, 1, 7);
            for (int key : new int[] {LEAST, 0, 4, 6, 7, 9, GREATEST}) {
                due.refused("delete(0, " + key + ")", NO_ELEMENT, () -> x.delete(0, key));
                due.same("none went", x.rows(0), 2);
            }
            due.same("delete(0, 5)", x.delete(0, 5), 1);
            due.refused("twice", NO_ELEMENT, () -> x.delete(0, 5));
            due.same("delete(0, 8)", x.delete(0, 8), 0);
            due.refused("of a table without rows", NO_ELEMENT, () -> x.delete(0, 8));
        });
    }

    private static void cell() {
        due.sentence("cell: Cell column of the row with a key.", () -> {
            PlannedTables x = Make.tables(4);
            for (int k = 0; k < 48; k++) {
                Make.put(x, 0, k * 7 % 48, k, -k, k * k);
            }
            for (int k = 0; k < 48; k++) {
                due.same("column 0", x.cell(0, k * 7 % 48, 0), k * 7 % 48);
                due.same("column 1", x.cell(0, k * 7 % 48, 1), k);
                due.same("column 2", x.cell(0, k * 7 % 48, 2), -k);
                due.same("column 3", x.cell(0, k * 7 % 48, 3), k * k);
            }
        });
        due.sentence("cell: IndexOutOfBoundsException: there is no such table or column", () -> {
            PlannedTables x = Make.tables(2, 3);
            x.insert(0);
            x.insert(1);
            int[][] none = {{-1, 0}, {2, 0}, {4, 0}, {LEAST, 0}, {GREATEST, 0}, {0, -1}, {0, 2}, {0, 3},
                {0, LEAST}, {0, GREATEST}, {1, -1}, {1, 3}, {-1, -1}, {2, 3}};
            for (int[] i : none) {
                due.refused("cell(" + i[0] + ", 0, " + i[1] + ")", BOUNDS, () -> x.cell(i[0], 0, i[1]));
            }
            due.same("the last column of table 0", x.cell(0, 0, 1), 0);
            due.same("the last column of table 1", x.cell(1, 0, 2), 0);
        });
        due.sentence("cell: NoSuchElementException: it has no such row", () -> {
            PlannedTables x = Make.tables(2, 1);
            due.refused("of an empty table", NO_ELEMENT, () -> x.cell(0, 0, 0));
            Make.put(x, 0, 5, 6);
            Make.put(x, 1, 7);
            for (int key : new int[] {LEAST, -1, 0, 4, 6, 7, GREATEST}) {
                due.refused("cell(0, " + key + ", 1)", NO_ELEMENT, () -> x.cell(0, key, 1));
            }
            due.same("cell(0, 5, 1)", x.cell(0, 5, 1), 6);
            x.delete(0, 5);
            due.refused("of a row taken away", NO_ELEMENT, () -> x.cell(0, 5, 1));
        });
    }

    private static void keyFrom() {
        due.sentence("keyFrom: The least key of the table that is from or above.", () -> {
            PlannedTables x = Make.keys(10, LEAST, 13, -4, GREATEST, 11);
            x.table(1);
            Make.put(x, 1, 12);
            int[][] fromAndKey = {{LEAST, LEAST}, {LEAST + 1, -4}, {-5, -4}, {-4, -4}, {-3, 10}, {0, 10}, {9, 10},
                {10, 10}, {11, 11}, {12, 13}, {13, 13}, {14, GREATEST}, {GREATEST - 1, GREATEST}, {GREATEST, GREATEST}};
            for (int[] i : fromAndKey) {
                due.same("keyFrom(0, " + i[0] + ")", x.keyFrom(0, i[0]), i[1]);
            }
        });
        due.sentence("keyFrom: in a table of 1 .. 48 rows", () -> {
            for (int n = 1; n <= 48; n++) {
                PlannedTables x = Make.tables(1);
                int greatest = 2 * n - 2;
                for (int k = 0; k < n; k++) {
                    Make.put(x, 0, 2 * k);
                }
                for (int from = -1; from <= greatest; from++) {
                    due.same("keyFrom(0, " + from + ") of " + n, x.keyFrom(0, from), from + (from & 1));
                }
                due.refused("keyFrom above all of " + n, NO_ELEMENT, () -> x.keyFrom(0, greatest + 1));
            }
        });
        due.sentence("keyFrom: IndexOutOfBoundsException: there is no such table", () -> {
            PlannedTables x = Make.keys(5);
            for (int t : new int[] {LEAST, -1, 1, 4, GREATEST}) {
                due.refused("keyFrom(" + t + ", 5)", BOUNDS, () -> x.keyFrom(t, 5));
            }
            due.same("keyFrom(0, 5)", x.keyFrom(0, 5), 5);
        });
        due.sentence("keyFrom: NoSuchElementException: there is none", () -> {
            PlannedTables x = Make.tables(1, 1);
            due.refused("in an empty table", NO_ELEMENT, () -> x.keyFrom(0, LEAST));
            due.refused("in an empty table", NO_ELEMENT, () -> x.keyFrom(0, 0));
            Make.put(x, 0, 5);
            Make.put(x, 1, 9);
            due.same("at the greatest key", x.keyFrom(0, 5), 5);
            due.refused("above the greatest key", NO_ELEMENT, () -> x.keyFrom(0, 6));
            due.refused("far above", NO_ELEMENT, () -> x.keyFrom(0, GREATEST));
            x.delete(0, 5);
            due.refused("when it was taken away", NO_ELEMENT, () -> x.keyFrom(0, 5));
        });
    }

    private static void rows() {
        due.sentence("rows: How many rows a table has", () -> {
            PlannedTables x = Make.tables(1, 4);
            for (int k = 0; k < 48; k++) {
                due.same("before row " + k, x.rows(1), k);
                Make.put(x, 1, k);
                due.same("of the other", x.rows(0), 0);
            }
            due.same("of the full one", x.rows(1), 48);
            x.delete(1, 0);
            due.same("when one was taken away", x.rows(1), 47);
        });
        due.sentence("rows: NONE when there is no such table.", () -> {
            PlannedTables x = Make.tables(1, 1, 1);
            for (int t : new int[] {LEAST, -1, 3, 4, GREATEST}) {
                due.same("rows(" + t + ")", x.rows(t), -1);
            }
            for (int t = 0; t < 3; t++) {
                due.same("rows(" + t + ")", x.rows(t), 0);
            }
            x.table(1);
            due.same("rows(3) of a table made since", x.rows(3), 0);
        });
    }
}
