/** The boundary cases of runs and their output: promises 13 to 16, and an object's last call. */
public final class RunBoundariesTest {
    private static final int LEAST = Make.LEAST;
    private static final int GREATEST = Make.GREATEST;
    private static final Class<IllegalArgumentException> ARGUMENT = IllegalArgumentException.class;
    private static final Class<IllegalStateException> STATE = IllegalStateException.class;
    private static final Class<UnsupportedOperationException> UNSUPPORTED = UnsupportedOperationException.class;
    private static final Due due = new Due();

    public static void main(String[] args) {
        outputTerms();
        run();
        fuel();
        tooLong();
        whichComesFirst();
        emptyThen();
        visits();
        size();
        out();
        lastCall();
        due.end();
    }

    /** Nine rows that all have the cell 7 in the indexed column 1: each with each is 81 rows. */
    private static PlannedTables ofNine() {
        PlannedTables x = Make.tables(2);
        x.index(0, 1);
        for (int k = 1; k <= 9; k++) {
            Make.put(x, 0, k, 7);
        }
        return x;
    }

    /** A plan on ofNine(): each with each, of so many cells. */
    private static int[] eachWithEach(int width) {
        int[] words = Make.join(new int[] {1, 0, 5, 0, 1, 1, 4}, width);
        for (int i = 0; i < width; i++) {
            words = Make.join(words, i % 2 == 0 ? 0 : 2);
        }
        return words;
    }

    /** The visits until so many rows of eachWithEach have come: each ninth needs one row more. */
    private static int visitsFor(int rows) {
        return rows + (rows + 8) / 9;
    }

    private static void outputTerms() {
        due.sentence("THE OUTPUT .. is empty at first.", () -> {
            PlannedTables x = ofNine();
            due.output("of a new object", x);
            Make.plan(x, 1, 0);
            due.output("with a plan that has not run", x);
            for (int i : new int[] {LEAST, -1, 0, 1, 63, 64, GREATEST}) {
                due.same("out(" + i + ")", x.out(i), 0);
            }
        });
        due.sentence("THE OUTPUT has rows of one width, one after the other, at most 64 cells", () -> {
            for (int width = 1; width <= 8; width++) {
                int most = 64 / width;
                for (int rows = most - 1; rows <= most + 1; rows++) {
                    int visits = visitsFor(rows);
                    PlannedTables x = ofNine();
                    Make.plan(x, Make.join(eachWithEach(width), 7, rows));
                    String what = rows + " rows of " + width;
                    if (rows > most) {
                        due.refused(what, UNSUPPORTED, () -> x.run(visits));
                        due.output(what, x);
                        continue;
                    }
                    int[] want = new int[rows * width];
                    for (int i = 0; i < want.length; i++) {
                        int row = i / width;
                        want[i] = 1 + (i % width % 2 == 0 ? row / 9 : row % 9);
                    }
                    due.gives(what, x, visits, want);
                    due.same("size of " + what, x.size(), rows * width);
                }
            }
        });
    }

    private static void run() {
        due.sentence("run: Runs the plan; the output becomes its rows. Answers how many.", () -> {
            PlannedTables x = ofNine();
            Make.plan(x, 1, 0, 7, 3);
            due.same("three rows", x.run(3), 3);
            due.output("three rows", x, 1, 7, 2, 7, 3, 7);
            Make.plan(x, 1, 0, 7, 1);
            due.same("one row", x.run(3), 1);
            due.output("nothing of the run before", x, 1, 7);
            Make.plan(x, 1, 0, 7, 0);
            due.same("no row", x.run(3), 0);
            due.output("nothing", x);
            Make.plan(x, 1, 0, 8);
            due.same("one row of one cell", x.run(9), 1);
            due.output("one cell", x, 9);
        });
        due.sentence("run: the output becomes its rows, until the next run()", () -> {
            PlannedTables x = ofNine();
            Make.plan(x, 1, 0, 7, 2);
            x.run(2);
            x.delete(0, 1);
            x.stage(0, 1);
            x.insert(0);
            x.table(4);
            x.index(1, 1);
            x.fault();
            x.width();
            x.clear();
            x.word(3);
            due.output("whatever else is called", x, 1, 7, 2, 7);
        });
        due.sentence("run: The plan stays.", () -> {
            PlannedTables x = ofNine();
            Make.plan(x, 1, 0, 6, 8, 10, 1);
            for (int again = 0; again < 3; again++) {
                due.gives("the plan again", x, 9, 7, 1);
                due.refused("fuel below 0", ARGUMENT, () -> x.run(-1));
                due.same("fault()", x.fault(), -1);
                due.same("width()", x.width(), 2);
            }
            due.same("its words", x.clear(), 6);
            Make.plan(x, eachWithEach(8));
            due.refused("too long", UNSUPPORTED, () -> x.run(99));
            due.same("its words after too long an output", x.clear(), 16);
            Make.plan(x, 1, 0, 11, 8);
            due.refused("a fault", ARGUMENT, () -> x.run(99));
            due.same("the fault stays", x.fault(), 2);
            due.same("its words after a fault", x.clear(), 4);
        });
        due.sentence("run: IllegalArgumentException: the plan has a fault", () -> {
            int[][] faults = {{}, {1}, {3}, {1, 1}, {1, -1}, {2, 0, 0, 1}, {1, 0, 11}, {1, 0, 9, 2}, {1, 0, 4, 9},
                {1, 0, 5, 0, 1, 2}, {1, 0, 7, -1}, {1, 0, 7, 0, 3}};
            for (int[] words : faults) {
                PlannedTables x = ofNine();
                Make.plan(x, words);
                for (int fuel : new int[] {LEAST, -1, 0, 1, 99, GREATEST}) {
                    due.refused("run(" + fuel + ")", ARGUMENT, () -> x.run(fuel));
                }
            }
        });
    }

    private static void fuel() {
        due.sentence("run: IllegalArgumentException: .. or fuel is below 0", () -> {
            PlannedTables x = ofNine();
            Make.plan(x, 1, 0, 7, 0);
            for (int fuel : new int[] {LEAST, LEAST + 1, -2, -1}) {
                due.refused("run(" + fuel + ")", ARGUMENT, () -> x.run(fuel));
            }
            for (int fuel : new int[] {0, 1, GREATEST - 1, GREATEST}) {
                due.same("run(" + fuel + ")", x.run(fuel), 0);
            }
        });
        due.sentence("run: IllegalStateException: there would be more visits than fuel (just as many may be)", () -> {
            for (int rows = 0; rows <= 48; rows++) {
                PlannedTables x = Make.tables(1);
                for (int k = 0; k < rows; k++) {
                    Make.put(x, 0, k);
                }
                Make.plan(x, 1, 0);
                int visits = rows;
                for (int fuel : new int[] {0, visits - 2, visits - 1}) {
                    if (fuel >= 0 && fuel < visits) {
                        due.refused("run(" + fuel + ") of " + rows, STATE, () -> x.run(fuel));
                    }
                }
                for (int fuel : new int[] {visits, visits + 1, GREATEST}) {
                    due.same("run(" + fuel + ") of " + rows, x.run(fuel), rows);
                    due.same("visits() of " + rows, x.visits(), visits);
                }
            }
        });
        due.sentence("run: more visits than fuel, of the source and of step 5", () -> {
            PlannedTables x = ofNine();
            Make.plan(x, 1, 0, 5, 0, 1, 1, 8);
            for (int fuel : new int[] {0, 1, 9, 81, 88, 89}) {
                due.refused("run(" + fuel + ")", STATE, () -> x.run(fuel));
            }
            due.gives("90 visits", x, 90, 81);
            due.same("more fuel", x.run(91), 1);
            due.same("still 90 visits", x.visits(), 90);
        });
        due.sentence("run: no visit, no fuel", () -> {
            PlannedTables x = Make.tables(2);
            Make.plan(x, 1, 0);
            due.same("a table without rows", x.run(0), 0);
            Make.put(x, 0, 1, 2);
            due.refused("a table with one", STATE, () -> x.run(0));
            due.same("fuel for one", x.run(1), 1);
            Make.plan(x, 2, 0, 0, 2, 3);
            due.same("no row between", x.run(0), 0);
            Make.plan(x, 1, 0, 8, 7, 0);
            due.same("none asked for", x.run(0), 0);
        });
    }

    private static void tooLong() {
        due.sentence("run: UnsupportedOperationException: the output would be longer than 64 cells", () -> {
            for (int rows = 31; rows <= 33; rows++) {
                PlannedTables x = Make.tables(2);
                for (int k = 0; k < rows; k++) {
                    Make.put(x, 0, k, -k);
                }
                Make.plan(x, 1, 0);
                if (rows <= 32) {
                    due.same(rows + " rows of 2", x.run(99), rows);
                    due.same("size", x.size(), 2 * rows);
                    due.same("the last cell", x.out(2 * rows - 1), 1 - rows);
                } else {
                    due.refused(rows + " rows of 2", UNSUPPORTED, () -> x.run(99));
                }
            }
        });
        due.sentence("run: longer than 64 cells: rows that do not come out do not count", () -> {
            PlannedTables x = ofNine();
            Make.plan(x, 1, 0, 5, 0, 1, 1, 6, 65);
            due.same("16 of 81 rows of 4", x.run(99), 16);
            due.same("64 cells", x.size(), 64);
            Make.plan(x, 1, 0, 5, 0, 1, 1, 6, 64);
            due.refused("17 of 81 rows of 4", UNSUPPORTED, () -> x.run(99));
            Make.plan(x, 1, 0, 5, 0, 1, 1, 9, 2);
            due.gives("one cell of 81 rows", x, 90, 9 * 45);
        });
    }

    private static void whichComesFirst() {
        due.sentence("run: Of these two the one that comes first, as rows are asked for.", () -> {
            for (int width = 1; width <= 8; width++) {
                int most = 64 / width;
                PlannedTables x = ofNine();
                Make.plan(x, eachWithEach(width));
                String what = "row " + (most + 1) + " of " + width;
                for (int fuel : new int[] {0, visitsFor(most) - 1, visitsFor(most), visitsFor(most + 1) - 1}) {
                    due.refused(what + " is not reached with " + fuel, STATE, () -> x.run(fuel));
                }
                for (int fuel : new int[] {visitsFor(most + 1), visitsFor(most + 1) + 1, 89, 90, GREATEST}) {
                    due.refused(what + " comes with " + fuel, UNSUPPORTED, () -> x.run(fuel));
                }
            }
        });
        due.sentence("run: the one that comes first: a full output and one more row that is asked for", () -> {
            PlannedTables x = Make.tables(2);
            for (int k = 0; k < 33; k++) {
                Make.put(x, 0, k, k);
            }
            Make.plan(x, 1, 0);
            due.refused("no fuel for it", STATE, () -> x.run(32));
            due.refused("fuel for it", UNSUPPORTED, () -> x.run(33));
            Make.plan(x, 1, 0, 3, 0, 0, 32);
            due.refused("no fuel for a row that would not come out", STATE, () -> x.run(32));
            due.same("fuel for it", x.run(33), 32);
            Make.plan(x, 1, 0, 7, 32);
            due.same("it is not asked for", x.run(32), 32);
        });
    }

    /** Makes an output, lets a run throw, and looks at what is left. */
    private static void emptyAfter(String what, Class<? extends RuntimeException> thrown, int fuel, int... words) {
        PlannedTables x = ofNine();
        Make.plan(x, 1, 0);
        x.run(9);
        due.same("an output before " + what, x.size(), 18);
        Make.plan(x, words);
        due.refused(what, thrown, () -> x.run(fuel));
        due.same("size() after " + what, x.size(), 0);
        for (int i : new int[] {-1, 0, 1, 17, 18, 63, 64}) {
            due.same("out(" + i + ") after " + what, x.out(i), 0);
        }
        Make.plan(x, 1, 0, 8);
        due.gives("the next run after " + what, x, 9, 9);
    }

    private static void emptyThen() {
        due.sentence("run: When it throws (also IllegalArgumentException) the output is empty.", () -> {
            emptyAfter("a fault", ARGUMENT, 99, 1, 0, 11);
            emptyAfter("no words", ARGUMENT, 99);
            emptyAfter("fuel below 0", ARGUMENT, -1, 1, 0);
            emptyAfter("the least fuel", ARGUMENT, LEAST, 1, 0);
            emptyAfter("a fault and fuel below 0", ARGUMENT, -1, 1, 0, 11);
            emptyAfter("no fuel", STATE, 0, 1, 0);
            emptyAfter("fuel for all rows but one", STATE, 8, 1, 0);
            emptyAfter("too long an output", UNSUPPORTED, 99, eachWithEach(8));
            emptyAfter("fuel for a full output and no more", STATE, visitsFor(8), eachWithEach(8));
        });
    }

    private static void visits() {
        due.sentence("visits: 0 when there was none.", () -> {
            PlannedTables x = ofNine();
            due.same("no run", x.visits(), 0);
            due.refused("a fault", ARGUMENT, () -> x.run(9));
            due.same("a run that threw", x.visits(), 0);
            Make.plan(x, 1, 0);
            due.refused("too little fuel", STATE, () -> x.run(8));
            due.same("a run that threw on the way", x.visits(), 0);
            Make.plan(x, eachWithEach(8));
            due.refused("too long", UNSUPPORTED, () -> x.run(90));
            due.same("a run that threw with visits made", x.visits(), 0);
        });
        due.sentence("visits: How many visits the latest run() made that did not throw", () -> {
            PlannedTables x = ofNine();
            Make.plan(x, 1, 0, 7, 5);
            x.run(9);
            due.same("five", x.visits(), 5);
            due.refused("fuel below 0", ARGUMENT, () -> x.run(-1));
            due.same("five still", x.visits(), 5);
            due.refused("too little fuel", STATE, () -> x.run(4));
            due.same("five still", x.visits(), 5);
            Make.plan(x, eachWithEach(8));
            due.refused("too long", UNSUPPORTED, () -> x.run(90));
            due.same("five still", x.visits(), 5);
            x.clear();
            due.refused("a fault", ARGUMENT, () -> x.run(90));
            due.same("five still", x.visits(), 5);
            Make.plan(x, 1, 0);
            due.same("with a new plan that has not run", x.visits(), 5);
            x.run(9);
            due.same("nine", x.visits(), 9);
            Make.plan(x, 1, 0, 7, 0);
            x.run(9);
            due.same("none", x.visits(), 0);
        });
    }

    private static void size() {
        due.sentence("size: How many cells the output has.", () -> {
            for (int cells = 0; cells <= 64; cells++) {
                PlannedTables x = ofNine();
                Make.plan(x, Make.join(eachWithEach(1), 7, cells));
                due.same("run", x.run(90), cells);
                due.same("size()", x.size(), cells);
                due.refused("a run that throws", ARGUMENT, () -> x.run(-1));
                due.same("size() then", x.size(), 0);
            }
            PlannedTables x = ofNine();
            Make.plan(x, 1, 0, 7, 3);
            x.run(9);
            due.same("cells, not rows", x.size(), 6);
        });
    }

    private static void out() {
        due.sentence("out: Cell i of the output; 0 when there is none.", () -> {
            for (int cells : new int[] {0, 1, 2, 9, 63, 64}) {
                PlannedTables x = ofNine();
                Make.plan(x, 1, 0, 5, 0, 1, 1, 4, 1, 2);
                Make.add(x, 7, 64);
                x.run(90);
                Make.plan(x, 1, 0, 5, 0, 1, 1, 4, 1, 2, 7, cells);
                x.run(90);
                for (int i = 0; i <= 65; i++) {
                    due.same("out(" + i + ") of " + cells, x.out(i), i < cells ? 1 + i % 9 : 0);
                }
                for (int i : new int[] {LEAST, -64, -1, GREATEST}) {
                    due.same("out(" + i + ") of " + cells, x.out(i), 0);
                }
            }
        });
    }

    private static void lastCall() {
        due.sentence("An object is used for at most 512 calls after it has been made", () -> {
            PlannedTables x = new PlannedTables();
            int calls = 0;
            due.same("call " + ++calls, x.table(1), 0);
            due.same("call " + ++calls, x.word(1), true);
            due.same("call " + ++calls, x.word(0), true);
            for (int k = 0; k < 48; k++) {
                due.same("call " + ++calls, x.stage(0, k), true);
                due.same("call " + ++calls, x.insert(0), k + 1);
            }
            while (calls < 510) {
                due.same("call " + ++calls, x.run(48), 48);
            }
            due.same("call " + ++calls, x.size(), 48);
            due.same("call " + ++calls, x.out(47), 47);
        });
    }
}
