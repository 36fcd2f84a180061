import java.util.NoSuchElementException;

/** Each promise of the document by itself: ordinary inputs, its edges, and wrong inputs. */
public final class PromisesTest {
    private static final int LEAST = Integer.MIN_VALUE;
    private static final int GREATEST = Integer.MAX_VALUE;
    private static final Class<IllegalArgumentException> ARGUMENT = IllegalArgumentException.class;
    private static final Class<IllegalStateException> STATE = IllegalStateException.class;
    private static final Class<IndexOutOfBoundsException> BOUNDS = IndexOutOfBoundsException.class;
    private static final Class<NoSuchElementException> NO_ELEMENT = NoSuchElementException.class;
    private static final Class<UnsupportedOperationException> UNSUPPORTED = UnsupportedOperationException.class;
    private static final Due due = new Due();

    public static void main(String[] args) {
        promise1NewObject();
        promise2Table();
        promise3Index();
        promise4Stage();
        promise5Insert();
        promise5InsertWhenFull();
        promise6Delete();
        promise7Cell();
        promise8KeyFrom();
        promise9Rows();
        promise10Word();
        promise11Clear();
        promise12Fault();
        promise13Run();
        promise13RunThatThrows();
        promise14Visits();
        promise15Size();
        promise16Out();
        promise17Width();
        due.end();
    }

    private static void promise1NewObject() {
        due.same("1 NONE", PlannedTables.NONE, -1);
        for (int t = -1; t <= 4; t++) {
            due.same("1 rows(" + t + ") of a new object", new PlannedTables().rows(t), -1);
        }
        PlannedTables x = new PlannedTables();
        due.same("1 size()", x.size(), 0);
        due.same("1 out(0)", x.out(0), 0);
        due.same("1 visits()", x.visits(), 0);
        due.same("1 fault()", x.fault(), 0);
        due.same("1 width()", x.width(), -1);
        due.same("1 clear()", x.clear(), 0);
        due.refused("1 insert(0)", BOUNDS, () -> x.insert(0));
        due.refused("1 run(0)", ARGUMENT, () -> x.run(0));
        PlannedTables other = Make.tables(1);
        Make.put(other, 0, 7);
        due.same("1 two objects are apart", x.rows(0), -1);
        x.table(4);
        x.insert(0);
        for (int c = 0; c < 4; c++) {
            due.same("1 the staged row is of 0", x.cell(0, 0, c), 0);
        }
    }

    private static void promise2Table() {
        PlannedTables x = new PlannedTables();
        for (int wrong : new int[] {0, -1, 5, LEAST, GREATEST}) {
            due.refused("2 table(" + wrong + ")", ARGUMENT, () -> x.table(wrong));
        }
        due.same("2 a table that was refused is none", x.rows(0), -1);
        for (int t = 0; t < 4; t++) {
            due.same("2 table number", x.table(t + 1), t);
            due.same("2 a new table has no rows", x.rows(t), 0);
        }
        due.refused("2 a fifth table", UNSUPPORTED, () -> x.table(1));
        due.refused("2 a fifth table of 0 columns", ARGUMENT, () -> x.table(0));
        due.refused("2 a fifth table of 5 columns", ARGUMENT, () -> x.table(5));
        due.same("2 there is no fifth", x.rows(4), -1);
        for (int t = 0; t < 4; t++) {
            Make.plan(x, 1, t);
            due.same("2 width of table " + t, x.width(), t + 1);
        }
    }

    private static void promise3Index() {
        PlannedTables x = Make.tables(3);
        x.table(1);
        due.same("3 column 0 always is", x.index(0, 0), false);
        due.same("3 column 2", x.index(0, 2), true);
        due.same("3 column 2 again", x.index(0, 2), false);
        due.same("3 column 1", x.index(0, 1), true);
        due.same("3 column 0 of table 1", x.index(1, 0), false);
        int[][] wrong = {{0, 3}, {0, -1}, {1, 1}, {2, 0}, {-1, 0}, {4, 0}, {LEAST, 0}, {0, GREATEST}, {0, LEAST}};
        for (int[] w : wrong) {
            due.refused("3 index(" + w[0] + ", " + w[1] + ")", BOUNDS, () -> x.index(w[0], w[1]));
        }
        PlannedTables y = Make.tables(2);
        Make.put(y, 0, 1, 30);
        Make.put(y, 0, 2, 20);
        Make.plan(y, 2, 0, 1, 0, 99);
        due.same("3 not indexed", y.fault(), 2);
        due.same("3 indexed when there are rows", y.index(0, 1), true);
        due.same("3 indexed from now on", y.fault(), -1);
        Make.put(y, 0, 3, 10);
        y.run(3);
        due.output("3 rows from before and after", y, 3, 10, 2, 20, 1, 30);
        y.table(2);
        Make.plan(y, 2, 1, 1, 0, 0);
        due.same("3 only that table's column", y.fault(), 2);
    }

    private static void promise4Stage() {
        PlannedTables x = Make.tables(4);
        for (int c = 0; c < 4; c++) {
            due.same("4 stage", x.stage(c, 10 + c), true);
        }
        for (int wrong : new int[] {-1, 4, LEAST, GREATEST}) {
            due.same("4 stage(" + wrong + ")", x.stage(wrong, 5), false);
        }
        x.insert(0);
        for (int c = 0; c < 4; c++) {
            due.same("4 cell", x.cell(0, 10, c), 10 + c);
        }
        x.stage(0, LEAST);
        x.stage(3, GREATEST);
        x.insert(0);
        due.same("4 only cell 3 became another", x.cell(0, LEAST, 2), 12);
        due.same("4 cell 3", x.cell(0, LEAST, 3), GREATEST);
        due.same("4 a row that is in stays as it was", x.cell(0, 10, 3), 13);
    }

    private static void promise5Insert() {
        PlannedTables x = Make.tables(2);
        x.table(4);
        for (int c = 0; c < 4; c++) {
            x.stage(c, 5 + c);
        }
        due.same("5 first", x.insert(0), 1);
        due.same("5 another table with the same key", x.insert(1), 1);
        due.refused("5 the same key", STATE, () -> x.insert(0));
        x.stage(1, 99);
        due.refused("5 the same key, another cell", STATE, () -> x.insert(0));
        due.same("5 nothing changed", x.cell(0, 5, 1), 6);
        due.same("5 nothing more", x.rows(0), 1);
        due.same("5 as many cells as columns", x.cell(1, 5, 3), 8);
        for (int wrong : new int[] {-1, 2, 4, LEAST, GREATEST}) {
            due.refused("5 insert(" + wrong + ")", BOUNDS, () -> x.insert(wrong));
        }
        x.stage(0, 6);
        due.same("5 the staged row stays", x.insert(0), 2);
        due.same("5 its cells", x.cell(0, 6, 1), 99);
        x.delete(0, 5);
        x.stage(0, 5);
        due.same("5 a key that was taken away", x.insert(0), 2);
        due.same("5 with new cells", x.cell(0, 5, 1), 99);
    }

    private static void promise5InsertWhenFull() {
        PlannedTables x = Make.tables(1);
        x.table(2);
        for (int k = 0; k < 24; k++) {
            x.stage(0, 1000 - k * 7);
            due.same("5 row of table 0", x.insert(0), k + 1);
            due.same("5 row of table 1", x.insert(1), k + 1);
        }
        x.stage(0, 1);
        due.refused("5 a 49th row", UNSUPPORTED, () -> x.insert(0));
        due.refused("5 a 49th row in the other", UNSUPPORTED, () -> x.insert(1));
        due.refused("5 no table, before 48 rows", BOUNDS, () -> x.insert(2));
        x.stage(0, 1000);
        due.refused("5 same key, before 48 rows", STATE, () -> x.insert(0));
        due.same("5 rows(0)", x.rows(0), 24);
        x.delete(1, 1000);
        due.same("5 room again", x.insert(1), 24);
        PlannedTables y = Make.tables(1);
        for (int k = 0; k < 48; k++) {
            y.stage(0, (k * 31) % 48);
            due.same("5 row of one table", y.insert(0), k + 1);
        }
        y.stage(0, 48);
        due.refused("5 a 49th row in one table", UNSUPPORTED, () -> y.insert(0));
        for (int k = 0; k < 48; k++) {
            due.same("5 all keys are there", y.keyFrom(0, k), k);
        }
    }

    private static void promise6Delete() {
        PlannedTables x = Make.tables(2);
        x.table(1);
        x.index(0, 1);
        Make.put(x, 0, 3, 30);
        Make.put(x, 0, 1, 30);
        Make.put(x, 0, 2, 10);
        Make.put(x, 1, 3);
        due.refused("6 no such row", NO_ELEMENT, () -> x.delete(0, 4));
        due.refused("6 no such row in this table", NO_ELEMENT, () -> x.delete(1, 1));
        for (int wrong : new int[] {-1, 2, 4, LEAST, GREATEST}) {
            due.refused("6 delete(" + wrong + ", 3)", BOUNDS, () -> x.delete(wrong, 3));
        }
        due.same("6 nothing changed", x.rows(0), 3);
        due.same("6 delete", x.delete(0, 3), 2);
        due.refused("6 twice", NO_ELEMENT, () -> x.delete(0, 3));
        due.refused("6 its cells are gone", NO_ELEMENT, () -> x.cell(0, 3, 1));
        due.same("6 the other table has it", x.cell(1, 3, 0), 3);
        Make.plan(x, 2, 0, 1, LEAST, GREATEST);
        x.run(2);
        due.output("6 the index too", x, 2, 10, 1, 30);
        due.same("6 delete", x.delete(0, 1), 1);
        due.same("6 the one that stays", x.cell(0, 2, 1), 10);
        due.same("6 the last", x.delete(0, 2), 0);
        due.refused("6 of an empty table", NO_ELEMENT, () -> x.delete(0, 2));
        due.same("6 a table without rows stays", x.rows(0), 0);
    }

    private static void promise7Cell() {
        PlannedTables x = Make.tables(3);
        x.table(1);
        Make.put(x, 0, LEAST, 1, 2);
        Make.put(x, 0, GREATEST, 3, 4);
        Make.put(x, 0, 0, -5, LEAST);
        due.same("7 key", x.cell(0, LEAST, 0), LEAST);
        due.same("7 column 1", x.cell(0, LEAST, 1), 1);
        due.same("7 column 2", x.cell(0, GREATEST, 2), 4);
        due.same("7 column 1 of 0", x.cell(0, 0, 1), -5);
        due.same("7 column 2 of 0", x.cell(0, 0, 2), LEAST);
        int[][] noPlace = {{-1, 0, 0}, {2, 0, 0}, {0, 0, 3}, {0, 0, -1}, {1, 0, 1}, {GREATEST, 0, 0}, {0, 0, LEAST}, {0, 77, 3}};
        for (int[] w : noPlace) {
            due.refused("7 cell(" + w[0] + ", " + w[1] + ", " + w[2] + ")", BOUNDS, () -> x.cell(w[0], w[1], w[2]));
        }
        due.refused("7 no such row", NO_ELEMENT, () -> x.cell(0, 1, 0));
        due.refused("7 no such row, near the last", NO_ELEMENT, () -> x.cell(0, GREATEST - 1, 0));
        due.refused("7 an empty table", NO_ELEMENT, () -> x.cell(1, 0, 0));
    }

    private static void promise8KeyFrom() {
        PlannedTables x = Make.tables(1);
        due.refused("8 an empty table", NO_ELEMENT, () -> x.keyFrom(0, LEAST));
        Make.put(x, 0, 10);
        Make.put(x, 0, -10);
        Make.put(x, 0, 0);
        due.same("8 from the least", x.keyFrom(0, LEAST), -10);
        due.same("8 from itself", x.keyFrom(0, -10), -10);
        due.same("8 above", x.keyFrom(0, -9), 0);
        due.same("8 to the last", x.keyFrom(0, 1), 10);
        due.same("8 the last itself", x.keyFrom(0, 10), 10);
        due.refused("8 none", NO_ELEMENT, () -> x.keyFrom(0, 11));
        due.refused("8 none at the end", NO_ELEMENT, () -> x.keyFrom(0, GREATEST));
        Make.put(x, 0, GREATEST);
        due.same("8 the greatest", x.keyFrom(0, GREATEST), GREATEST);
        due.same("8 on to the greatest", x.keyFrom(0, 11), GREATEST);
        x.delete(0, 0);
        due.same("8 past one taken away", x.keyFrom(0, 0), 10);
        for (int wrong : new int[] {-1, 1, 4, LEAST, GREATEST}) {
            due.refused("8 keyFrom(" + wrong + ", 0)", BOUNDS, () -> x.keyFrom(wrong, 0));
        }
    }

    private static void promise9Rows() {
        PlannedTables x = Make.tables(1);
        x.table(1);
        Make.put(x, 0, 1);
        Make.put(x, 0, 2);
        Make.put(x, 1, 1);
        due.same("9 rows(0)", x.rows(0), 2);
        due.same("9 rows(1)", x.rows(1), 1);
        for (int wrong : new int[] {-1, 2, 3, 4, LEAST, GREATEST}) {
            due.same("9 rows(" + wrong + ")", x.rows(wrong), -1);
        }
        x.delete(1, 1);
        due.same("9 rows(1) after", x.rows(1), 0);
    }

    private static void promise10Word() {
        PlannedTables x = Make.tables(1);
        x.word(1);
        x.word(0);
        for (int w = 2; w < 40; w++) {
            due.same("10 word " + w, x.word(8), true);
        }
        due.same("10 a plan of 40 words", x.fault(), -1);
        due.same("10 a 41st word", x.word(99), false);
        due.same("10 it is not in", x.fault(), -1);
        due.same("10 it runs", x.run(0), 1);
        due.output("10 counts of counts", x, 1);
        due.same("10 clear()", x.clear(), 40);
        due.same("10 words again", x.word(LEAST), true);
        due.same("10 any word", x.fault(), 0);
        due.same("10 a second word", x.word(GREATEST), true);
        due.same("10 how many", x.clear(), 2);
    }

    private static void promise11Clear() {
        PlannedTables x = Make.tables(1);
        Make.put(x, 0, 4);
        due.same("11 of none", x.clear(), 0);
        Make.plan(x, 1, 0);
        x.run(1);
        due.same("11 of two", x.clear(), 2);
        due.same("11 no words then", x.fault(), 0);
        due.same("11 again", x.clear(), 0);
        due.output("11 the output stays", x, 4);
        due.same("11 the visits stay", x.visits(), 1);
        x.word(1);
        due.same("11 no word from before", x.fault(), 1);
    }

    /** Each plan on an object of its own, as an object may be used for 512 calls only. */
    private static void fault(int want, int... words) {
        PlannedTables x = Make.tables(4, 3, 1);
        x.index(1, 2);
        due.fault(x, want, words);
    }

    private static void promise12Fault() {
        fault(0);
        for (int kind : new int[] {0, 3, 4, 5, 6, 7, 8, 9, 10, 11, -1, LEAST, GREATEST}) {
            fault(0, kind, 0);
            fault(0, kind);
        }
        fault(1, 1);
        fault(1, 2);
        for (int t : new int[] {3, -1, 4, LEAST, GREATEST}) {
            fault(1, 1, t);
            fault(1, 2, t, 0, 0, 0);
            fault(3, 1, 0, 5, t, 0, 0);
        }
        fault(-1, 1, 2);
        fault(-1, 2, 1, 2, 5, 4);
        fault(-1, 2, 1, 2, LEAST, GREATEST);
        for (int c : new int[] {1, 3, -1, LEAST, GREATEST}) {
            fault(2, 2, 1, c, 0, 0);
            fault(4, 1, 0, 5, 1, c, 0);
        }
        fault(2, 2, 0);
        fault(3, 2, 0, 0);
        fault(4, 2, 0, 0, 7);
        for (int kind : new int[] {0, 1, 2, 11, -1, LEAST, GREATEST}) {
            fault(2, 1, 0, kind);
            fault(5, 2, 0, 0, 1, 2, kind, 0);
            fault(3, 1, 0, 8, kind, 0);
        }
        fault(-1, 1, 0, 3, 3, 5, LEAST);
        fault(-1, 1, 0, 3, 0, 0, GREATEST);
        for (int c : new int[] {4, -1, LEAST, GREATEST}) {
            fault(3, 1, 0, 3, c, 0, 0);
            fault(4, 1, 0, 4, 1, c);
            fault(6, 1, 0, 4, 3, 0, 3, c, 0);
            fault(5, 1, 0, 5, 1, 0, c);
            fault(3, 1, 0, 9, c);
            fault(3, 1, 0, 10, c);
        }
        fault(4, 1, 0, 3, 0, 6, 0);
        fault(4, 1, 0, 3, 0, -1, 0);
        fault(3, 1, 0, 3);
        fault(4, 1, 0, 3, 0);
        fault(5, 1, 0, 3, 0, 0);
        for (int n : new int[] {0, 9, -1, LEAST, GREATEST}) {
            fault(3, 1, 0, 4, n, 0, 0, 0, 0, 0, 0, 0, 0, 0);
        }
        fault(-1, 1, 0, 4, 8, 0, 1, 2, 3, 3, 2, 1, 0);
        fault(3, 1, 0, 4);
        fault(4, 1, 0, 4, 1);
        fault(11, 1, 0, 4, 8, 0, 1, 2, 3, 3, 2, 1);
        for (int kind = 6; kind <= 7; kind++) {
            fault(3, 1, 0, kind);
            fault(3, 1, 0, kind, -1);
            fault(3, 1, 0, kind, LEAST);
            fault(-1, 1, 0, kind, 0);
            fault(-1, 1, 0, kind, GREATEST);
        }
        fault(-1, 1, 0, 8);
        fault(3, 1, 0, 9);
        fault(3, 1, 0, 10);
        widthFaults();
        faultByTheTables();
    }

    private static void widthFaults() {
        fault(-1, 1, 0, 5, 0, 0, 3);
        fault(-1, 1, 0, 5, 1, 0, 3, 5, 2, 0, 6);
        fault(7, 1, 0, 5, 0, 0, 3, 5, 2, 0, 0);
        fault(7, 1, 0, 5, 0, 0, 3, 5, 2);
        fault(7, 1, 0, 5, 0, 0, 3, 5, 2, 9, 9);
        fault(7, 1, 0, 5, 0, 0, 3, 5, 3, 0, 0);
        fault(7, 1, 0, 5, 0, 0, 3, 5);
        fault(5, 1, 0, 5, 1, 0);
        fault(4, 1, 0, 5, 1);
        fault(3, 1, 0, 5);
        fault(-1, 1, 0, 5, 0, 0, 3, 3, 7, 0, 0);
        fault(7, 1, 0, 5, 0, 0, 3, 3, 8, 0, 0);
        fault(-1, 1, 2, 5, 0, 0, 0, 10, 4, 10, 1);
        fault(7, 1, 2, 5, 0, 0, 0, 10, 5, 9, 0);
        fault(9, 1, 2, 5, 0, 0, 0, 10, 4, 10, 2);
        fault(5, 1, 0, 9, 3, 9, 1);
        fault(-1, 1, 0, 9, 3, 9, 0);
        fault(4, 1, 0, 8, 9, 1);
        fault(-1, 1, 0, 8, 5, 0, 0, 0, 5, 1, 0, 4);
        fault(8, 1, 0, 8, 5, 0, 0, 0, 5, 0, 0, 0);
        fault(5, 1, 0, 5, 0, 0, 4);
    }

    private static void faultByTheTables() {
        PlannedTables x = new PlannedTables();
        Make.plan(x, 1, 0, 5, 1, 1, 0);
        due.same("12 no tables", x.fault(), 1);
        x.table(1);
        due.same("12 one table", x.fault(), 3);
        x.table(2);
        due.same("12 two tables", x.fault(), 4);
        x.index(1, 1);
        due.same("12 and an index", x.fault(), -1);
        due.same("12 width", x.width(), 3);
        for (int w = 6; w < 40; w++) {
            x.word(w < 39 ? 8 : 9);
        }
        due.same("12 missing behind 40 words", x.fault(), 40);
        Make.plan(x, 1, 0);
        for (int w = 2; w < 40; w++) {
            x.word(w < 39 ? 8 : 11);
        }
        due.same("12 the last of 40 words is looked at", x.fault(), 39);
    }

    private static void promise13Run() {
        PlannedTables x = Make.tables(2);
        Make.put(x, 0, 2, 20);
        Make.put(x, 0, 1, 10);
        Make.plan(x, 1, 0);
        due.same("13 run", x.run(2), 2);
        due.output("13 rows by their keys", x, 1, 10, 2, 20);
        due.same("13 the plan stays", x.run(GREATEST), 2);
        Make.put(x, 0, 0, 5);
        due.output("13 the output stays when tables change", x, 1, 10, 2, 20);
        due.same("13 run again", x.run(3), 3);
        due.output("13 the output becomes its rows", x, 0, 5, 1, 10, 2, 20);
        Make.plan(x, 1, 0, 7, 1);
        due.same("13 a shorter output", x.run(1), 1);
        due.output("13 nothing is left of the longer", x, 0, 5);
        Make.plan(x, 1, 0, 3, 0, 0, 0);
        due.same("13 no rows", x.run(3), 0);
        due.output("13 no output", x);
        due.same("13 how many words stay", x.clear(), 6);
    }

    private static void promise13RunThatThrows() {
        PlannedTables x = Make.tables(2);
        for (int k = 0; k < 32; k++) {
            Make.put(x, 0, k, -k);
        }
        Make.plan(x, 1, 0);
        due.same("13 64 cells", x.run(32), 32);
        due.same("13 64 cells, size", x.size(), 64);
        due.refused("13 fuel below 0", ARGUMENT, () -> x.run(-1));
        due.output("13 empty then", x);
        x.run(32);
        due.refused("13 least fuel", ARGUMENT, () -> x.run(LEAST));
        due.same("13 empty then too", x.size(), 0);
        x.run(32);
        due.refused("13 fuel one too low", STATE, () -> x.run(31));
        due.same("13 empty after too little fuel", x.size(), 0);
        due.refused("13 no fuel", STATE, () -> x.run(0));
        Make.put(x, 0, 32, 0);
        due.refused("13 33 rows: fuel ends first", STATE, () -> x.run(32));
        due.refused("13 33 rows: the output ends first", UNSUPPORTED, () -> x.run(33));
        due.same("13 empty after too much output", x.size(), 0);
        due.same("13 out after too much output", x.out(0), 0);
        Make.put(x, 0, 33, 0);
        due.refused("13 34 rows: the output ends first", UNSUPPORTED, () -> x.run(33));
        x.word(7);
        x.word(32);
        due.same("13 the plan stayed", x.run(32), 32);
        x.word(3);
        due.refused("13 a fault", ARGUMENT, () -> x.run(99));
        due.same("13 empty after a fault", x.size(), 0);
        due.refused("13 a fault and fuel below 0", ARGUMENT, () -> x.run(-1));
        due.same("13 nothing else changed", x.rows(0), 34);
        Make.plan(x, 1, 0, 4, 5, 0, 0, 0, 0, 0);
        due.refused("13 12 rows of 5 are 60 cells, 13 are 65: fuel first", STATE, () -> x.run(12));
        due.refused("13 12 rows of 5 are 60 cells, 13 are 65", UNSUPPORTED, () -> x.run(13));
        Make.plan(x, 1, 0, 4, 5, 0, 0, 0, 0, 0, 7, 12);
        due.same("13 12 rows of 5", x.run(12), 12);
        due.same("13 60 cells", x.size(), 60);
    }

    private static void promise14Visits() {
        PlannedTables x = Make.tables(2);
        x.index(0, 1);
        for (int k = 0; k < 6; k++) {
            Make.put(x, 0, k, k / 2);
        }
        due.same("14 none yet", x.visits(), 0);
        Make.plan(x, 1, 0);
        due.refused("14 a run that throws", STATE, () -> x.run(5));
        due.same("14 still none", x.visits(), 0);
        x.run(99);
        due.same("14 all rows", x.visits(), 6);
        due.refused("14 a run that throws", STATE, () -> x.run(1));
        due.same("14 of the latest that did not throw", x.visits(), 6);
        due.refused("14 a run that throws", ARGUMENT, () -> x.run(-1));
        due.same("14 of the latest that did not throw", x.visits(), 6);
        Make.plan(x, 2, 0, 1, 1, 1);
        x.run(99);
        due.same("14 only rows between", x.visits(), 2);
        Make.plan(x, 1, 0, 7, 0);
        x.run(0);
        due.same("14 none taken", x.visits(), 0);
        Make.plan(x, 1, 0, 3, 0, 2, 0);
        x.run(99);
        due.same("14 rows that do not come out count too", x.visits(), 6);
        Make.plan(x, 1, 0, 5, 0, 1, 1);
        x.run(99);
        due.same("14 rows of the source and of the step", x.visits(), 18);
    }

    private static void promise15Size() {
        PlannedTables x = Make.tables(3);
        Make.put(x, 0, 1, 2, 3);
        Make.put(x, 0, 2, 3, 4);
        Make.plan(x, 1, 0);
        due.same("15 before a run", x.size(), 0);
        x.run(2);
        due.same("15 two rows of three", x.size(), 6);
        Make.plan(x, 1, 0, 8);
        due.same("15 until the next run", x.size(), 6);
        x.run(2);
        due.same("15 one cell", x.size(), 1);
        due.refused("15 a run that throws", STATE, () -> x.run(1));
        due.same("15 empty", x.size(), 0);
    }

    private static void promise16Out() {
        PlannedTables x = Make.tables(3);
        Make.put(x, 0, 1, 2, 3);
        Make.put(x, 0, 4, 5, 6);
        Make.plan(x, 1, 0);
        x.run(2);
        for (int i = 0; i < 6; i++) {
            due.same("16 out(" + i + ")", x.out(i), i + 1);
        }
        for (int i : new int[] {-1, 6, 63, 64, LEAST, GREATEST}) {
            due.same("16 out(" + i + ")", x.out(i), 0);
        }
        Make.plan(x, 1, 0, 7, 1);
        x.run(1);
        due.same("16 the last", x.out(2), 3);
        due.same("16 a cell of the run before", x.out(3), 0);
        due.refused("16 a run that throws", STATE, () -> x.run(0));
        due.same("16 a cell of the run before", x.out(0), 0);
    }

    private static void width(PlannedTables x, int want, int... words) {
        Make.plan(x, words);
        due.same("17 width of " + java.util.Arrays.toString(words), x.width(), want);
    }

    private static void promise17Width() {
        PlannedTables x = Make.tables(4);
        x.table(1);
        x.table(3);
        width(x, -1);
        width(x, 4, 1, 0);
        width(x, 1, 1, 1);
        width(x, 3, 2, 2, 0, 9, 1);
        width(x, 4, 1, 0, 3, 0, 0, 0);
        width(x, 8, 1, 1, 4, 8, 0, 0, 0, 0, 0, 0, 0, 0);
        width(x, 2, 1, 0, 4, 2, 3, 3);
        width(x, 8, 1, 0, 5, 0, 0, 0);
        width(x, 7, 1, 0, 5, 2, 0, 0);
        width(x, 4, 1, 0, 6, 1);
        width(x, 4, 1, 0, 7, 1);
        width(x, 1, 1, 0, 8);
        width(x, 1, 1, 0, 9, 3);
        width(x, 2, 1, 0, 10, 3);
        width(x, 5, 1, 0, 10, 3, 5, 2, 0, 1);
        width(x, -1, 1, 0, 9, 4);
        width(x, -1, 1, 3);
        due.same("17 no such table", x.width(), -1);
        x.table(2);
        due.same("17 by the tables as they are", x.width(), 2);
    }
}
