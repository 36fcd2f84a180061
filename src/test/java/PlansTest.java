/** What the sources and steps of a plan give, and how many rows they take from tables for it. */
public final class PlansTest {
    private static final int LEAST = Integer.MIN_VALUE;
    private static final int GREATEST = Integer.MAX_VALUE;
    private static final Due due = new Due();

    public static void main(String[] args) {
        sources();
        sourceBetween();
        where();
        pick();
        join();
        joinTakesOnlyWhatIsAskedFor();
        skipAndFirst();
        countAndSum();
        groups();
        stepsBehindSteps();
        longestPlans();
        fuelBeforeOutput();
        due.end();
    }

    /** Table 0: key, group. Table 1: key alone. Both columns of table 0 are indexed. */
    private static PlannedTables ofGroups() {
        PlannedTables x = new PlannedTables();
        x.table(2);
        x.table(1);
        x.index(0, 1);
        Make.put(x, 0, 6, 7);
        Make.put(x, 0, 1, 7);
        Make.put(x, 0, 5, -3);
        Make.put(x, 0, 2, 7);
        Make.put(x, 0, 3, 9);
        Make.put(x, 0, 4, -3);
        Make.put(x, 1, 9);
        Make.put(x, 1, -3);
        Make.put(x, 1, 8);
        Make.put(x, 1, 7);
        return x;
    }

    private static void sources() {
        PlannedTables x = ofGroups();
        Make.plan(x, 1, 0);
        due.gives("all rows by key", x, 6, 1, 7, 2, 7, 3, 9, 4, -3, 5, -3, 6, 7);
        Make.plan(x, 1, 1);
        due.gives("all rows of table 1", x, 4, -3, 7, 8, 9);
        x.table(4);
        Make.plan(x, 1, 2);
        due.gives("no rows", x, 0);
        Make.plan(x, 2, 2, 0, LEAST, GREATEST);
        due.gives("no rows between", x, 0);
        Make.put(x, 2, GREATEST, 1, 2, 3);
        Make.put(x, 2, LEAST, 4, 5, 6);
        Make.plan(x, 1, 2);
        due.gives("the greatest key and the least", x, 2, LEAST, 4, 5, 6, GREATEST, 1, 2, 3);
    }

    private static void sourceBetween() {
        PlannedTables x = ofGroups();
        Make.plan(x, 2, 0, 1, LEAST, GREATEST);
        due.gives("by the cell, then the key", x, 6, 4, -3, 5, -3, 1, 7, 2, 7, 6, 7, 3, 9);
        Make.plan(x, 2, 0, 1, 7, 9);
        due.gives("both ends are in", x, 4, 1, 7, 2, 7, 6, 7, 3, 9);
        Make.plan(x, 2, 0, 1, -2, 8);
        due.gives("between cells", x, 3, 1, 7, 2, 7, 6, 7);
        Make.plan(x, 2, 0, 1, 8, 8);
        due.gives("none of that cell", x, 0);
        Make.plan(x, 2, 0, 1, 9, 7);
        due.gives("a above b", x, 0);
        Make.plan(x, 2, 0, 1, GREATEST, LEAST);
        due.gives("a far above b", x, 0);
        Make.plan(x, 2, 0, 0, 2, 4);
        due.gives("by the key", x, 3, 2, 7, 3, 9, 4, -3);
        Make.plan(x, 2, 0, 0, 6, 6);
        due.gives("one key", x, 1, 6, 7);
        Make.put(x, 0, 0, GREATEST);
        Make.put(x, 0, 7, LEAST);
        Make.plan(x, 2, 0, 1, LEAST, LEAST);
        due.gives("the least cell", x, 1, 7, LEAST);
        Make.plan(x, 2, 0, 1, GREATEST, GREATEST);
        due.gives("the greatest cell", x, 1, 0, GREATEST);
        x.delete(0, 2);
        Make.plan(x, 2, 0, 1, 7, 7);
        due.gives("without one taken away", x, 2, 1, 7, 6, 7);
        Make.put(x, 0, 2, 7);
        due.gives("with it again", x, 3, 1, 7, 2, 7, 6, 7);
    }

    private static void where() {
        PlannedTables x = ofGroups();
        int[][] want = {{4, 5}, {1, 2, 4, 5, 6}, {1, 2, 6}, {3, 4, 5}, {1, 2, 3, 6}, {3}};
        for (int r = 0; r < 6; r++) {
            Make.plan(x, 1, 0, 3, 1, r, 7, 4, 1, 0);
            due.gives("where, r = " + r, x, 6, want[r]);
        }
        Make.plan(x, 1, 0, 3, 1, 0, LEAST, 4, 1, 0);
        due.gives("less than the least", x, 6);
        Make.plan(x, 1, 0, 3, 1, 5, GREATEST, 4, 1, 0);
        due.gives("more than the greatest", x, 6);
        Make.plan(x, 1, 0, 3, 1, 5, LEAST, 8);
        due.gives("more than the least", x, 6, 6);
        Make.plan(x, 1, 0, 3, 0, 4, 5, 3, 1, 3, 7);
        due.gives("two of them", x, 6, 5, -3);
        Make.plan(x, 1, 0, 3, 1, 2, 7, 7, 2);
        due.gives("no more than needed", x, 2, 1, 7, 2, 7);
        Make.plan(x, 1, 0, 3, 1, 2, 9, 7, 1);
        due.gives("up to the one needed", x, 3, 3, 9);
    }

    private static void pick() {
        PlannedTables x = ofGroups();
        Make.plan(x, 1, 0, 7, 2, 4, 2, 1, 0);
        due.gives("turned round", x, 2, 7, 1, 7, 2);
        Make.plan(x, 1, 0, 7, 2, 4, 1, 1);
        due.gives("one cell", x, 2, 7, 7);
        Make.plan(x, 1, 0, 7, 1, 4, 8, 0, 1, 1, 0, 0, 0, 1, 0);
        due.gives("eight cells", x, 1, 1, 7, 7, 1, 1, 1, 7, 1);
        Make.plan(x, 1, 0, 6, 2, 7, 1, 4, 3, 1, 0, 1, 4, 2, 2, 1);
        due.gives("twice", x, 3, 9, 3);
    }

    private static void join() {
        PlannedTables x = ofGroups();
        Make.plan(x, 1, 1, 5, 0, 1, 0);
        due.gives("by an indexed column", x, 10, -3, 4, -3, -3, 5, -3, 7, 1, 7, 7, 2, 7, 7, 6, 7, 9, 3, 9);
        Make.plan(x, 1, 0, 5, 1, 0, 1);
        due.gives("by the key", x, 12, 1, 7, 7, 2, 7, 7, 3, 9, 9, 4, -3, -3, 5, -3, -3, 6, 7, 7);
        Make.plan(x, 1, 0, 5, 0, 0, 0);
        due.gives("with itself", x, 12, 1, 7, 1, 7, 2, 7, 2, 7, 3, 9, 3, 9, 4, -3, 4, -3, 5, -3, 5, -3, 6, 7, 6, 7);
        Make.plan(x, 2, 0, 1, 9, 9, 5, 1, 0, 0);
        due.gives("none has that", x, 1);
        Make.plan(x, 1, 1, 3, 0, 2, 7, 5, 0, 1, 0, 5, 0, 1, 2, 4, 3, 0, 1, 3);
        due.gives("twice", x, 16, 7, 1, 1, 7, 1, 2, 7, 1, 6, 7, 2, 1, 7, 2, 2, 7, 2, 6, 7, 6, 1, 7, 6, 2, 7, 6, 6);
        Make.plan(x, 1, 1, 3, 0, 2, 7, 5, 0, 1, 0, 5, 0, 0, 1, 3, 3, 4, 2, 4, 2, 3, 0);
        due.gives("by a cell that came behind", x, 10, 2, 7, 6, 7);
        x.table(4);
        Make.plan(x, 1, 0, 5, 2, 0, 0);
        due.gives("with no rows", x, 6);
        Make.plan(x, 1, 2, 5, 0, 0, 0);
        due.gives("no rows with some", x, 0);
        Make.plan(x, 1, 0, 9, 0, 5, 0, 0, 0);
        due.gives("behind a sum", x, 6);
        Make.plan(x, 1, 0, 8, 5, 0, 0, 0);
        due.gives("behind a count", x, 7, 6, 6, 7);
    }

    private static void joinTakesOnlyWhatIsAskedFor() {
        PlannedTables x = ofGroups();
        Make.plan(x, 1, 1, 5, 0, 1, 0, 7, 1);
        due.gives("one of two", x, 2, -3, 4, -3);
        Make.plan(x, 1, 1, 5, 0, 1, 0, 7, 2);
        due.gives("two of two, and no row more", x, 3, -3, 4, -3, -3, 5, -3);
        Make.plan(x, 1, 1, 5, 0, 1, 0, 7, 3);
        due.gives("one of the next", x, 5, -3, 4, -3, -3, 5, -3, 7, 1, 7);
        Make.plan(x, 1, 1, 5, 0, 1, 0, 7, 6);
        due.gives("past a row without any", x, 10, -3, 4, -3, -3, 5, -3, 7, 1, 7, 7, 2, 7, 7, 6, 7, 9, 3, 9);
        Make.plan(x, 1, 1, 7, 2, 5, 0, 1, 0, 4, 1, 1);
        due.gives("two rows joined", x, 7, 4, 5, 1, 2, 6);
    }

    private static void skipAndFirst() {
        PlannedTables x = ofGroups();
        Make.plan(x, 1, 1, 6, 0);
        due.gives("all but 0", x, 4, -3, 7, 8, 9);
        Make.plan(x, 1, 1, 6, 3);
        due.gives("all but 3", x, 4, 9);
        Make.plan(x, 1, 1, 6, 4);
        due.gives("all but all", x, 4);
        Make.plan(x, 1, 1, 6, GREATEST);
        due.gives("all but more than there are", x, 4);
        Make.plan(x, 1, 1, 7, 0);
        due.gives("first 0", x, 0);
        Make.plan(x, 1, 1, 7, 3);
        due.gives("first 3", x, 3, -3, 7, 8);
        Make.plan(x, 1, 1, 7, 4);
        due.gives("first 4", x, 4, -3, 7, 8, 9);
        Make.plan(x, 1, 1, 7, GREATEST);
        due.gives("first of many", x, 4, -3, 7, 8, 9);
        Make.plan(x, 1, 1, 6, 1, 7, 2);
        due.gives("the middle", x, 3, 7, 8);
        Make.plan(x, 1, 1, 7, 2, 6, 1);
        due.gives("the last of the first", x, 2, 7);
        Make.plan(x, 1, 1, 7, 2, 7, 3, 7, 1);
        due.gives("the least of them", x, 1, -3);
        Make.plan(x, 1, 1, 6, 1, 6, 1);
        due.gives("two by two", x, 4, 8, 9);
        Make.plan(x, 1, 1, 6, 2, 7, 0);
        due.gives("none of the rest", x, 0);
        due.gives("the same plan twice", x, 0);
    }

    private static void countAndSum() {
        PlannedTables x = ofGroups();
        Make.plan(x, 1, 0, 8);
        due.gives("count", x, 6, 6);
        Make.plan(x, 1, 0, 3, 0, 0, 0, 8);
        due.gives("count of none", x, 6, 0);
        Make.plan(x, 1, 0, 8, 6, 1, 8);
        due.gives("count behind the only row", x, 6, 0);
        Make.plan(x, 1, 0, 9, 1);
        due.gives("sum", x, 6, 24);
        Make.plan(x, 1, 0, 9, 0);
        due.gives("sum of keys", x, 6, 21);
        Make.plan(x, 1, 0, 7, 0, 9, 1);
        due.gives("sum of none", x, 0, 0);
        Make.plan(x, 1, 0, 9, 1, 9, 0);
        due.gives("sum of the sum", x, 6, 24);
        Make.plan(x, 1, 0, 8, 7, 0);
        due.gives("a count that is not asked for", x, 0);
        Make.put(x, 1, GREATEST);
        Make.plan(x, 1, 1, 9, 0);
        due.gives("a sum that wraps", x, 5, LEAST + 20);
        Make.put(x, 1, GREATEST - 1);
        due.gives("a sum that wraps on", x, 6, 18);
        Make.put(x, 1, LEAST);
        due.gives("a sum that wraps back", x, 7, LEAST + 18);
    }

    private static void groups() {
        PlannedTables x = ofGroups();
        Make.plan(x, 1, 0, 10, 1);
        due.gives("groups of rows next to each other", x, 6, 7, 2, 9, 1, -3, 2, 7, 1);
        Make.plan(x, 2, 0, 1, LEAST, GREATEST, 10, 1);
        due.gives("groups of rows by that cell", x, 6, -3, 2, 7, 3, 9, 1);
        Make.plan(x, 1, 0, 7, 0, 10, 1);
        due.gives("groups of none", x, 0);
        Make.plan(x, 1, 0, 7, 1, 10, 1);
        due.gives("a group of one", x, 1, 7, 1);
        Make.plan(x, 2, 0, 1, 7, 7, 10, 1);
        due.gives("one group", x, 3, 7, 3);
        Make.plan(x, 1, 0, 10, 1, 7, 1);
        due.gives("the first group needs a row of the next", x, 3, 7, 2);
        Make.plan(x, 1, 0, 10, 1, 7, 2);
        due.gives("the second group needs one more", x, 4, 7, 2, 9, 1);
        Make.plan(x, 1, 0, 10, 1, 7, 3);
        due.gives("the third needs the last row", x, 6, 7, 2, 9, 1, -3, 2);
        Make.plan(x, 1, 0, 10, 1, 6, 3);
        due.gives("the last group", x, 6, 7, 1);
        Make.plan(x, 1, 0, 7, 3, 10, 1, 7, 1);
        due.gives("behind a step that ends", x, 3, 7, 2);
        Make.plan(x, 1, 0, 10, 1, 10, 1);
        due.gives("groups of groups", x, 6, 2, 1, 1, 1, 2, 1, 1, 1);
        Make.plan(x, 1, 0, 10, 1, 9, 1);
        due.gives("all are in a group", x, 6, 6);
        Make.plan(x, 1, 0, 4, 1, 1, 3, 0, 2, 0, 10, 0);
        due.gives("none is of the cell 0", x, 6);
        Make.put(x, 0, 0, 0);
        Make.put(x, 0, -1, 0);
        Make.plan(x, 1, 0, 10, 1, 7, 1);
        due.gives("a group of the cell 0", x, 3, 0, 2);
    }

    private static void stepsBehindSteps() {
        PlannedTables x = ofGroups();
        Make.plan(x, 1, 0, 10, 1, 5, 1, 0, 0, 3, 1, 2, 1);
        due.gives("groups joined", x, 10, 9, 1, 9, 7, 1, 7);
        Make.plan(x, 1, 0, 8, 8, 8);
        due.gives("counts of counts", x, 6, 1);
        Make.plan(x, 1, 0, 7, 2, 5, 0, 1, 1, 10, 0, 7, 1);
        due.gives("a group of joined rows", x, 6, 1, 3);
        Make.plan(x, 1, 0, 7, 0, 8, 10, 0, 9, 1);
        due.gives("one group of one count of none", x, 0, 1);
        Make.plan(x, 1, 0, 7, 0, 10, 1, 8, 6, 1, 9, 0);
        due.gives("a sum of nothing left", x, 0, 0);
    }

    private static void longestPlans() {
        PlannedTables x = ofGroups();
        int[] firsts = new int[40];
        firsts[0] = 1;
        firsts[1] = 0;
        for (int w = 2; w < 40; w += 2) {
            firsts[w] = 7;
            firsts[w + 1] = 21 - w / 2;
        }
        Make.plan(x, firsts);
        due.gives("nineteen steps", x, 2, 1, 7, 2, 7);
        Make.plan(x, 1, 0);
        for (int w = 2; w < 40; w++) {
            x.word(8);
        }
        due.gives("thirty-eight steps", x, 6, 1);
    }

    private static void fuelBeforeOutput() {
        PlannedTables x = new PlannedTables();
        x.table(2);
        x.index(0, 1);
        for (int k = 0; k < 8; k++) {
            Make.put(x, 0, k, 1);
        }
        Make.plan(x, 1, 0, 5, 0, 1, 1);
        due.refused("16 rows of 4 fit: fuel for them", IllegalStateException.class, () -> x.run(18));
        due.refused("row 17 is too much: fuel for it", UnsupportedOperationException.class, () -> x.run(20));
        due.refused("the row before row 17 has no fuel", IllegalStateException.class, () -> x.run(19));
        Make.plan(x, 1, 0, 5, 0, 1, 1, 7, 16);
        due.same("just 16 rows", x.run(18), 16);
        due.same("their visits", x.visits(), 18);
        Make.plan(x, 1, 0, 5, 0, 1, 1, 8);
        due.gives("no output until the end", x, 72, 64);
        Make.plan(x, 1, 0, 5, 0, 1, 1, 4, 1, 2);
        due.same("64 rows of one cell", x.run(72), 64);
        Make.put(x, 0, 8, 1);
        due.refused("65 rows of one cell", UnsupportedOperationException.class, () -> x.run(73));
        due.refused("65 rows, fuel for 64", IllegalStateException.class, () -> x.run(72));
    }
}
