/** Makes objects with tables, rows and plans for the tests. */
final class Make {
    static final int LEAST = Integer.MIN_VALUE;
    static final int GREATEST = Integer.MAX_VALUE;

    private Make() {
    }

    /** An object with tables of so many columns. */
    static PlannedTables tables(int... columns) {
        PlannedTables x = new PlannedTables();
        for (int n : columns) {
            x.table(n);
        }
        return x;
    }

    static void indexAll(PlannedTables x, int table, int columns) {
        for (int c = 0; c < columns; c++) {
            x.index(table, c);
        }
    }

    static void stage(PlannedTables x, int... cells) {
        for (int c = 0; c < cells.length; c++) {
            x.stage(c, cells[c]);
        }
    }

    static void put(PlannedTables x, int table, int... cells) {
        stage(x, cells);
        x.insert(table);
    }

    /** A table of one column with these keys. */
    static PlannedTables keys(int... keys) {
        PlannedTables x = tables(1);
        for (int key : keys) {
            put(x, 0, key);
        }
        return x;
    }

    static void plan(PlannedTables x, int... words) {
        x.clear();
        add(x, words);
    }

    static void add(PlannedTables x, int... words) {
        for (int w : words) {
            x.word(w);
        }
    }

    /** Words behind one another. */
    static int[] join(int[] first, int... then) {
        int[] both = java.util.Arrays.copyOf(first, first.length + then.length);
        System.arraycopy(then, 0, both, first.length, then.length);
        return both;
    }

    /** The source and a step 4 behind it that make rows of so many cells, all of column 0. */
    static int[] ofWidth(int table, int width) {
        int[] words = new int[4 + width];
        words[0] = 1;
        words[1] = table;
        words[2] = 4;
        words[3] = width;
        return words;
    }
}
