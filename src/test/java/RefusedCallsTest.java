import java.util.LinkedHashMap;
import java.util.Map;
import java.util.NoSuchElementException;
import java.util.function.Consumer;
import java.util.function.Supplier;

/**
 * "Calls that name exceptions throw them as their comments say, the one named first when several would do;
 * a call that throws changes nothing, but for what is said of run()."
 */
public final class RefusedCallsTest {
    private static final int LEAST = Make.LEAST;
    private static final int GREATEST = Make.GREATEST;
    private static final Class<IllegalArgumentException> ARGUMENT = IllegalArgumentException.class;
    private static final Class<IllegalStateException> STATE = IllegalStateException.class;
    private static final Class<IndexOutOfBoundsException> BOUNDS = IndexOutOfBoundsException.class;
    private static final Class<NoSuchElementException> NO_ELEMENT = NoSuchElementException.class;
    private static final Class<UnsupportedOperationException> UNSUPPORTED = UnsupportedOperationException.class;
    private static final Due due = new Due();

    public static void main(String[] args) {
        firstNamed();
        nothingChanged();
        due.end();
    }

    private static void firstNamed() {
        due.sentence("table: the one named first: columns not 1 .. 4, then 4 tables", () -> {
            PlannedTables x = Make.tables(1, 2, 3, 4);
            due.refused("table(0)", ARGUMENT, () -> x.table(0));
            due.refused("table(5)", ARGUMENT, () -> x.table(5));
            due.refused("table(1)", UNSUPPORTED, () -> x.table(1));
            due.refused("table(4)", UNSUPPORTED, () -> x.table(4));
        });
        due.sentence("insert: the one named first: no table, then the key, then 48 rows", () -> {
            PlannedTables x = full();
            x.stage(0, 0);
            due.refused("no table, and 48 rows", BOUNDS, () -> x.insert(4));
            due.refused("no table, and 48 rows", BOUNDS, () -> x.insert(-1));
            due.refused("the key, and 48 rows", STATE, () -> x.insert(0));
            x.stage(0, 12);
            due.refused("48 rows", UNSUPPORTED, () -> x.insert(0));
            x.delete(1, 0);
            x.stage(0, 0);
            due.refused("the key alone", STATE, () -> x.insert(0));
            due.same("none of them", x.insert(1), 12);
        });
        due.sentence("delete: the one named first: no table, then no row", () -> {
            PlannedTables x = ordinary();
            due.refused("no table and no row", BOUNDS, () -> x.delete(2, 99));
            due.refused("no table and no row", BOUNDS, () -> x.delete(-1, 99));
            due.refused("no row", NO_ELEMENT, () -> x.delete(1, 99));
        });
        due.sentence("cell: the one named first: no table or column, then no row", () -> {
            PlannedTables x = ordinary();
            due.refused("no table and no row", BOUNDS, () -> x.cell(2, 99, 0));
            due.refused("no column and no row", BOUNDS, () -> x.cell(0, 99, 2));
            due.refused("no column and no row", BOUNDS, () -> x.cell(0, 99, -1));
            due.refused("no row", NO_ELEMENT, () -> x.cell(0, 99, 1));
        });
        due.sentence("keyFrom: the one named first: no table, then none", () -> {
            PlannedTables x = ordinary();
            due.refused("no table and none", BOUNDS, () -> x.keyFrom(2, GREATEST));
            due.refused("no table and none", BOUNDS, () -> x.keyFrom(-1, GREATEST));
            due.refused("none", NO_ELEMENT, () -> x.keyFrom(1, GREATEST));
        });
        due.sentence("run: the one named first: a fault or fuel below 0, then the two on the way", () -> {
            PlannedTables x = full();
            Make.plan(x, 1, 3, 5, 3, 0, 0, 11);
            due.refused("a fault, and no fuel", ARGUMENT, () -> x.run(0));
            due.refused("a fault, and fuel below 0", ARGUMENT, () -> x.run(-1));
            due.refused("a fault behind rows that are too long", ARGUMENT, () -> x.run(99));
            Make.plan(x, 1, 3, 5, 3, 0, 0);
            due.refused("fuel below 0, which is less than the visits", ARGUMENT, () -> x.run(-1));
            due.refused("no fuel", STATE, () -> x.run(0));
            due.refused("fuel up to the output's end", STATE, () -> x.run(17));
            due.refused("too long", UNSUPPORTED, () -> x.run(18));
        });
    }

    /** Two tables with rows and an index, a plan, an output of another plan, and a staged row. */
    private static PlannedTables ordinary() {
        PlannedTables x = Make.tables(2, 4);
        x.index(0, 1);
        x.index(1, 2);
        for (int k = 0; k < 5; k++) {
            Make.put(x, 0, k * 3 % 5, k);
            Make.put(x, 1, k, -k, k * k, 7);
        }
        Make.plan(x, 1, 1, 6, 2);
        x.run(5);
        Make.plan(x, 2, 0, 1, 1, 3, 5, 1, 0, 0);
        Make.stage(x, 3, 61, 62, 63);
        return x;
    }

    /** Four tables, 48 rows, 64 cells and 40 words. */
    private static PlannedTables full() {
        PlannedTables x = Make.tables(1, 2, 3, 4);
        x.index(3, 3);
        for (int k = 0; k < 12; k++) {
            Make.stage(x, k, -k, k % 3, 5 - k);
            for (int t = 0; t < 4; t++) {
                x.insert(t);
            }
        }
        Make.plan(x, 1, 1, 5, 1, 0, 0, 4, 8, 0, 1, 2, 3, 0, 1, 2, 3, 7, 8);
        x.run(16);
        Make.plan(x, 1, 3);
        for (int w = 2; w < 40; w++) {
            x.word(8);
        }
        Make.stage(x, 88, 61, 62, 63);
        return x;
    }

    /** A plan with a fault, no rows, nothing staged, and the output of a plan that it had before. */
    private static PlannedTables faulty() {
        PlannedTables x = Make.tables(3);
        Make.plan(x, 1, 0, 8);
        x.run(0);
        Make.add(x, 11, 5);
        return x;
    }

    /** A plan that needs more than it may have: 81 rows of 4 cells, with 90 visits. */
    private static PlannedTables greedy() {
        PlannedTables x = Make.tables(2);
        x.index(0, 1);
        for (int k = 0; k < 9; k++) {
            Make.put(x, 0, k, 1);
        }
        Make.plan(x, 1, 0, 7, 4);
        x.run(4);
        Make.plan(x, 1, 0, 5, 0, 1, 1);
        return x;
    }

    /** What the calls that only ask tell of the object, but for its output. */
    private static String told(PlannedTables x) {
        StringBuilder text = new StringBuilder();
        text.append("visits ").append(x.visits()).append(" fault ").append(x.fault());
        text.append(" width ").append(x.width()).append('\n');
        for (int t = -1; t <= 4; t++) {
            int rows = x.rows(t);
            text.append("table ").append(t).append(" rows ").append(rows);
            int from = LEAST;
            for (int r = 0; r < rows; r++) {
                int key = x.keyFrom(t, from);
                text.append(" |").append(cellsOf(x, t, key));
                from = key + 1;
            }
            text.append('\n');
        }
        return text.toString();
    }

    private static String cellsOf(PlannedTables x, int t, int key) {
        StringBuilder text = new StringBuilder();
        try {
            for (int c = 0; c < 4; c++) {
                text.append(' ').append(x.cell(t, key, c));
            }
        } catch (IndexOutOfBoundsException e) {
            text.append(" no more");
        }
        return text.toString();
    }

    private static String output(PlannedTables x) {
        StringBuilder text = new StringBuilder("size " + x.size() + ":");
        for (int i = -1; i <= 64; i++) {
            text.append(' ').append(x.out(i));
        }
        return text.toString();
    }

    /** What can be seen only by calls that change the object: plan, indexes, tables and staged row. */
    private static String tried(PlannedTables x) {
        StringBuilder text = new StringBuilder();
        text.append("run ").append(answer(() -> x.run(50))).append(" visits ").append(x.visits());
        text.append(' ').append(output(x));
        text.append("\nwords ").append(x.clear());
        for (int t = 0; t < 4; t++) {
            for (int c = 0; c < 4; c++) {
                int table = t;
                int column = c;
                text.append("\nindex ").append(t).append(' ').append(c).append(' ');
                text.append(answer(() -> x.index(table, column)));
            }
        }
        for (int t = 0; t < 5; t++) {
            text.append("\ntable ").append(answer(() -> x.table(4)));
        }
        text.append("\nstaged ").append(answer(() -> x.insert(1)));
        text.append(' ').append(answer(() -> x.delete(0, x.keyFrom(0, LEAST))));
        text.append(' ').append(answer(() -> x.insert(3)));
        text.append(' ').append(answer(() -> x.insert(1)));
        return text.append('\n').append(told(x)).toString();
    }

    private static String answer(Supplier<Object> call) {
        try {
            return call.get().toString();
        } catch (RuntimeException e) {
            return e.getClass().getSimpleName();
        }
    }

    /** Of two objects made alike one is given the call: then nothing tells them apart. */
    private static void changesNothing(String what, Supplier<PlannedTables> make, Consumer<PlannedTables> call) {
        PlannedTables asked = make.get();
        PlannedTables twin = make.get();
        call.accept(asked);
        due.same("the output after " + what, output(asked), output(twin));
        due.same("what is told after " + what, told(asked), told(twin));
        due.same("what is tried after " + what, tried(make, call), tried(make, x -> { }));
    }

    private static String tried(Supplier<PlannedTables> make, Consumer<PlannedTables> call) {
        PlannedTables x = make.get();
        call.accept(x);
        return tried(x);
    }

    private static void throwsAndChangesNothing(String what, Supplier<PlannedTables> make,
            Class<? extends RuntimeException> thrown, Consumer<PlannedTables> call) {
        changesNothing(what, make, x -> due.refused(what, thrown, () -> call.accept(x)));
    }

    /** The same for run(), but for the output, which is empty then. */
    private static void throwsAndEmpties(String what, Supplier<PlannedTables> make,
            Class<? extends RuntimeException> thrown, int fuel) {
        Consumer<PlannedTables> call = x -> due.refused(what, thrown, () -> x.run(fuel));
        PlannedTables asked = make.get();
        PlannedTables twin = make.get();
        due.holds("an output before " + what, twin.size() > 0);
        call.accept(asked);
        due.same("the output after " + what, output(asked), output(new PlannedTables()));
        due.same("what is told after " + what, told(asked), told(twin));
        due.same("what is tried after " + what, tried(make, call), tried(make, x -> { }));
    }

    private static void nothingChanged() {
        due.sentence("table: a call that throws changes nothing", () -> {
            for (int n : new int[] {LEAST, -1, 0, 5, GREATEST}) {
                throwsAndChangesNothing("table(" + n + ")", RefusedCallsTest::ordinary, ARGUMENT, x -> x.table(n));
                throwsAndChangesNothing("table(" + n + ")", RefusedCallsTest::full, ARGUMENT, x -> x.table(n));
            }
            for (int n = 1; n <= 4; n++) {
                int columns = n;
                throwsAndChangesNothing("fifth table", RefusedCallsTest::full, UNSUPPORTED, x -> x.table(columns));
            }
        });
        due.sentence("index: a call that throws changes nothing", () -> {
            for (int[] i : new int[][] {{-1, 1}, {2, 1}, {0, 2}, {0, 3}, {1, 4}, {0, -1}, {1, -1}}) {
                throwsAndChangesNothing("index(" + i[0] + ", " + i[1] + ")", RefusedCallsTest::ordinary, BOUNDS,
                        x -> x.index(i[0], i[1]));
            }
        });
        due.sentence("insert: a call that throws changes nothing", () -> {
            throwsAndChangesNothing("no table", RefusedCallsTest::ordinary, BOUNDS, x -> x.insert(2));
            throwsAndChangesNothing("no table", RefusedCallsTest::ordinary, BOUNDS, x -> x.insert(-1));
            throwsAndChangesNothing("the key", RefusedCallsTest::ordinary, STATE, x -> x.insert(0));
            throwsAndChangesNothing("the key", RefusedCallsTest::ordinary, STATE, x -> x.insert(1));
            for (int t = 0; t < 4; t++) {
                int table = t;
                throwsAndChangesNothing("48 rows", RefusedCallsTest::full, UNSUPPORTED, x -> x.insert(table));
            }
            throwsAndChangesNothing("no table, 48 rows", RefusedCallsTest::full, BOUNDS, x -> x.insert(4));
        });
        due.sentence("delete: a call that throws changes nothing", () -> {
            throwsAndChangesNothing("no table", RefusedCallsTest::ordinary, BOUNDS, x -> x.delete(2, 1));
            throwsAndChangesNothing("no table", RefusedCallsTest::ordinary, BOUNDS, x -> x.delete(-1, 1));
            for (int key : new int[] {LEAST, -1, 5, GREATEST}) {
                throwsAndChangesNothing("no row", RefusedCallsTest::ordinary, NO_ELEMENT, x -> x.delete(0, key));
                throwsAndChangesNothing("no row", RefusedCallsTest::ordinary, NO_ELEMENT, x -> x.delete(1, key));
                throwsAndChangesNothing("no rows", RefusedCallsTest::faulty, NO_ELEMENT, x -> x.delete(0, key));
            }
        });
        due.sentence("cell: a call that throws changes nothing", () -> {
            throwsAndChangesNothing("no table", RefusedCallsTest::ordinary, BOUNDS, x -> x.cell(2, 1, 0));
            throwsAndChangesNothing("no column", RefusedCallsTest::ordinary, BOUNDS, x -> x.cell(0, 1, 2));
            throwsAndChangesNothing("no row", RefusedCallsTest::ordinary, NO_ELEMENT, x -> x.cell(0, 5, 1));
        });
        due.sentence("keyFrom: a call that throws changes nothing", () -> {
            throwsAndChangesNothing("no table", RefusedCallsTest::ordinary, BOUNDS, x -> x.keyFrom(2, 1));
            throwsAndChangesNothing("none", RefusedCallsTest::ordinary, NO_ELEMENT, x -> x.keyFrom(0, 5));
            throwsAndChangesNothing("none", RefusedCallsTest::faulty, NO_ELEMENT, x -> x.keyFrom(0, LEAST));
        });
        due.sentence("run: a call that throws changes nothing but the output", () -> {
            for (int fuel : new int[] {LEAST, -1, 0, 50, GREATEST}) {
                throwsAndEmpties("a fault, run(" + fuel + ")", RefusedCallsTest::faulty, ARGUMENT, fuel);
            }
            throwsAndEmpties("fuel below 0", RefusedCallsTest::ordinary, ARGUMENT, -1);
            throwsAndEmpties("fuel below 0", RefusedCallsTest::full, ARGUMENT, LEAST);
            throwsAndEmpties("no fuel", RefusedCallsTest::ordinary, STATE, 0);
            throwsAndEmpties("one visit too many", RefusedCallsTest::ordinary, STATE, 5);
            throwsAndEmpties("one visit too many", RefusedCallsTest::full, STATE, 11);
            throwsAndEmpties("too little fuel for all that fits", RefusedCallsTest::greedy, STATE, 17);
            throwsAndEmpties("too long", RefusedCallsTest::greedy, UNSUPPORTED, 50);
            throwsAndEmpties("too long", RefusedCallsTest::greedy, UNSUPPORTED, GREATEST);
            throwsAndEmpties("too long with fuel for just that row", RefusedCallsTest::greedy, UNSUPPORTED, 19);
        });
        due.sentence("index, stage, word: a call that answers false changes nothing", () -> {
            changesNothing("index(0, 0)", RefusedCallsTest::ordinary, x -> x.index(0, 0));
            changesNothing("index(0, 1)", RefusedCallsTest::ordinary, x -> x.index(0, 1));
            for (int c : new int[] {LEAST, -1, 4, GREATEST}) {
                changesNothing("stage(" + c + ", 9)", RefusedCallsTest::ordinary, x -> x.stage(c, 9));
            }
            for (int w : new int[] {LEAST, 8, 11, GREATEST}) {
                changesNothing("word(" + w + ")", RefusedCallsTest::full, x -> x.word(w));
            }
        });
        due.sentence("calls that only answer change nothing", () -> {
            Map<String, Consumer<PlannedTables>> calls = new LinkedHashMap<>();
            calls.put("cell", x -> x.cell(0, 1, 0));
            calls.put("keyFrom", x -> x.keyFrom(0, 1));
            calls.put("rows", x -> x.rows(0));
            calls.put("rows of no table", x -> x.rows(4));
            calls.put("fault", PlannedTables::fault);
            calls.put("visits", PlannedTables::visits);
            calls.put("size", PlannedTables::size);
            calls.put("out", x -> x.out(0));
            calls.put("out of none", x -> x.out(64));
            calls.put("width", PlannedTables::width);
            calls.forEach((what, call) -> {
                changesNothing(what, RefusedCallsTest::ordinary, call);
                changesNothing(what, RefusedCallsTest::full, call);
                changesNothing(what, RefusedCallsTest::greedy, call);
            });
        });
    }
}
