import java.util.NoSuchElementException;

/** Tables of rows with keys and indexes, and plans of words that ask them for rows. */
public final class PlannedTables {
    public static final int NONE = -1;

    private static final int MOST_TABLES = 4;
    private static final int MOST_COLUMNS = 4;
    private static final int MOST_ROWS = 48;
    private static final int MOST_WORDS = 40;
    /** A source has two words at least, and a step one. */
    private static final int MOST_STEPS = MOST_WORDS - 1;
    private static final int MOST_WIDTH = 8;
    private static final int MOST_OUTPUT = 64;
    private static final int LEAST_INT = 0x80000000;
    private static final int GREATEST_INT = 0x7fffffff;

    /* The words that say which source or step. */
    private static final int ALL_ROWS = 1;
    private static final int ROWS_BETWEEN = 2;
    private static final int WHERE = 3;
    private static final int PICK = 4;
    private static final int JOIN = 5;
    private static final int SKIP = 6;
    private static final int FIRST = 7;
    private static final int COUNT = 8;
    private static final int SUM = 9;
    private static final int GROUPS = 10;

    /* The words r of the step WHERE. */
    private static final int LESS = 0;
    private static final int NOT_MORE = 1;
    private static final int SAME = 2;
    private static final int ANOTHER = 3;
    private static final int NOT_LESS = 4;
    private static final int MORE = 5;

    /* What a step does when it is asked for a row, given one, or told that there are no more. */
    private static final int ASK = 0;
    private static final int GIVE = 1;
    private static final int END = 2;
    private static final int OUT_OF_FUEL = 3;
    private static final int OUTPUT_FULL = 4;

    private final Tables tables = new Tables();
    private final int[] staged = new int[MOST_COLUMNS];
    private final Plan plan = new Plan();
    private final Output output = new Output();
    private int latestVisits;

    public PlannedTables() {
    }

    public int table(int columns) throws IllegalArgumentException, UnsupportedOperationException {
        if (columns < 1 || columns > MOST_COLUMNS) {
            throw new IllegalArgumentException("a table has 1 to 4 columns");
        }
        if (tables.made >= MOST_TABLES) {
            throw new UnsupportedOperationException("there are 4 tables");
        }
        return tables.make(columns);
    }

    public boolean index(int table, int column) throws IndexOutOfBoundsException {
        if (!tables.has(table) || !tables.all[table].hasColumn(column)) {
            throw new IndexOutOfBoundsException("no such table or column");
        }
        boolean already = tables.all[table].indexed[column];
        tables.all[table].indexed[column] = true;
        return !already;
    }

    public boolean stage(int c, int v) {
        if (c < 0 || c >= MOST_COLUMNS) {
            return false;
        }
        staged[c] = v;
        return true;
    }

    public int insert(int table)
            throws IndexOutOfBoundsException, IllegalStateException, UnsupportedOperationException {
        if (!tables.has(table)) {
            throw new IndexOutOfBoundsException("no such table");
        }
        if (tables.all[table].slotOf(staged[0]) != NONE) {
            throw new IllegalStateException("the table has a row with this key");
        }
        if (tables.rowsInAll() >= MOST_ROWS) {
            throw new UnsupportedOperationException("there are 48 rows");
        }
        tables.all[table].add(staged);
        return tables.all[table].count;
    }

    public int delete(int table, int key) throws IndexOutOfBoundsException, NoSuchElementException {
        if (!tables.has(table)) {
            throw new IndexOutOfBoundsException("no such table");
        }
        int slot = tables.all[table].slotOf(key);
        if (slot == NONE) {
            throw new NoSuchElementException("no row with this key");
        }
        tables.all[table].remove(slot);
        return tables.all[table].count;
    }

    public int cell(int table, int key, int column) throws IndexOutOfBoundsException, NoSuchElementException {
        if (!tables.has(table) || !tables.all[table].hasColumn(column)) {
            throw new IndexOutOfBoundsException("no such table or column");
        }
        int slot = tables.all[table].slotOf(key);
        if (slot == NONE) {
            throw new NoSuchElementException("no row with this key");
        }
        return tables.all[table].cells[column][slot];
    }

    public int keyFrom(int table, int from) throws IndexOutOfBoundsException, NoSuchElementException {
        if (!tables.has(table)) {
            throw new IndexOutOfBoundsException("no such table");
        }
        int place = tables.all[table].placeFrom(0, from);
        if (place >= tables.all[table].count) {
            throw new NoSuchElementException("no key from there on");
        }
        return tables.all[table].cellAt(0, place);
    }

    public int rows(int table) {
        return tables.has(table) ? tables.all[table].count : NONE;
    }

    public boolean word(int w) {
        if (plan.length >= MOST_WORDS) {
            return false;
        }
        plan.words[plan.length] = w;
        plan.length++;
        return true;
    }

    public int clear() {
        int had = plan.length;
        plan.length = 0;
        return had;
    }

    public int fault() {
        plan.lookThrough(tables);
        return plan.wrong;
    }

    public int run(int fuel)
            throws IllegalArgumentException, IllegalStateException, UnsupportedOperationException {
        output.empty();
        plan.lookThrough(tables);
        if (plan.wrong != NONE || fuel < 0) {
            throw new IllegalArgumentException("the plan has a fault, or fuel is below 0");
        }
        Run latest = new Run(tables, plan, output, fuel);
        int how = latest.askForAll();
        if (how != END) {
            output.empty();
        }
        if (how == OUT_OF_FUEL) {
            throw new IllegalStateException("more visits than fuel");
        }
        if (how == OUTPUT_FULL) {
            throw new UnsupportedOperationException("the output would be longer than 64 cells");
        }
        latestVisits = latest.visited;
        return output.count;
    }

    public int visits() {
        return latestVisits;
    }

    public int size() {
        return output.used;
    }

    public int out(int i) {
        return i >= 0 && i < output.used ? output.cells[i] : 0;
    }

    public int width() {
        plan.lookThrough(tables);
        return plan.wrong == NONE ? plan.wide : NONE;
    }

    /** One table: its rows lie in slots, and every column has an order of the slots. */
    private static final class Table {
        int columns;
        int count;
        final boolean[] indexed = new boolean[MOST_COLUMNS];
        /** cells[column][slot]; the slots below count are in use. */
        final int[][] cells = new int[MOST_COLUMNS][MOST_ROWS];
        /**
         * order[column][place] is a slot: by the cell in the column, then by the key. Kept for
         * columns that are not indexed too, so that indexing one later has nothing to build.
         */
        private final int[][] order = new int[MOST_COLUMNS][MOST_ROWS];

        boolean hasColumn(int column) {
            return column >= 0 && column < columns;
        }

        int cellAt(int column, int place) {
            return cells[column][order[column][place]];
        }

        /** The first place in the column's order whose cell is low or above; count if there is none. */
        int placeFrom(int column, int low) {
            int place = 0;
            // Steps of 32, 16 .. 1 reach 63 places, and there are 48 rows at most.
            for (int step = 32; step > 0; step = step >> 1) {
                if (place + step <= count && cellAt(column, place + step - 1) < low) {
                    place += step;
                }
            }
            return place;
        }

        int slotOf(int key) {
            int place = placeFrom(0, key);
            return place < count && cellAt(0, place) == key ? order[0][place] : NONE;
        }

        void add(int[] from) {
            for (int c = 0; c < columns; c++) {
                cells[c][count] = from[c];
            }
            for (int c = 0; c < columns; c++) {
                putInOrder(c, count);
            }
            count++;
        }

        private void putInOrder(int column, int slot) {
            int[] slots = order[column];
            int place = count;
            for (; place > 0 && comesBefore(column, slot, slots[place - 1]); place--) {
                slots[place] = slots[place - 1];
            }
            slots[place] = slot;
        }

        private boolean comesBefore(int column, int slot, int other) {
            int mine = cells[column][slot];
            int theirs = cells[column][other];
            return mine < theirs || (mine == theirs && cells[0][slot] < cells[0][other]);
        }

        void remove(int slot) {
            int last = count - 1;
            for (int c = 0; c < columns; c++) {
                removeFromOrder(c, slot, last);
                cells[c][slot] = cells[c][last];
            }
            count = last;
        }

        /** The row in the last slot moves into the free one, so its number changes on the way. */
        private void removeFromOrder(int column, int slot, int last) {
            int[] slots = order[column];
            int kept = 0;
            for (int place = 0; place < count; place++) {
                int here = slots[place];
                if (here != slot) {
                    slots[kept] = here == last ? slot : here;
                    kept++;
                }
            }
        }

        /** The row at a place of the column's order, written into a row from a cell on. */
        void copyRow(int column, int place, int[] into, int from) {
            int slot = order[column][place];
            for (int c = 0; c < columns; c++) {
                into[from + c] = cells[c][slot];
            }
        }
    }

    /** All tables, of which the first ones are made. */
    private static final class Tables {
        final Table[] all = new Table[MOST_TABLES];
        int made;

        Tables() {
            for (int t = 0; t < MOST_TABLES; t++) {
                all[t] = new Table();
            }
        }

        boolean has(int table) {
            return table >= 0 && table < made;
        }

        int make(int columns) {
            int number = made;
            all[number].columns = columns;
            all[number].indexed[0] = true;
            made++;
            return number;
        }

        int rowsInAll() {
            int sum = 0;
            for (int t = 0; t < made; t++) {
                sum += all[t].count;
            }
            return sum;
        }
    }

    /** The source or a step of a plan, and how far it has come in a run. */
    private static final class Step {
        int kind;
        /** Where its first word stands in the plan. */
        int place;
        /** The width of the rows that come to it, 0 for a source. */
        int wideBefore;

        /* Its walk through a table: the next place in a column's order, and the last cell it takes. */
        int table;
        int column;
        int next;
        int high;

        /** Rows left to skip or to give, rows counted, or the sum. */
        int tally;
        /** A step that gives a row of its own at the end has given it. */
        boolean over;
        /** The row that is being joined, the cell of the group, or the cells picked. */
        final int[] kept = new int[MOST_WIDTH];
    }

    /** The words, and what the latest look through them found. */
    private static final class Plan {
        final int[] words = new int[MOST_WORDS];
        int length;
        /** The place of the first wrong word, or NONE. The rest holds only when it is NONE. */
        int wrong;
        int wide;
        int count;
        final Step[] steps = new Step[MOST_STEPS];
        private int at;

        Plan() {
            for (int s = 0; s < MOST_STEPS; s++) {
                steps[s] = new Step();
            }
        }

        void lookThrough(Tables tables) {
            wrong = NONE;
            wide = 0;
            count = 0;
            at = 0;
            lookAtSource(tables);
            for (int s = 1; s < MOST_STEPS && at < length && wrong == NONE; s++) {
                lookAtStep(tables);
            }
        }

        private void lookAtSource(Tables tables) {
            Step source = beginStep();
            source.kind = next(ALL_ROWS, ROWS_BETWEEN);
            int t = next(0, tables.made - 1);
            if (wrong != NONE) {
                return;
            }
            if (source.kind == ROWS_BETWEEN) {
                nextIndexed(tables.all[t]);
                nextAny();
                nextAny();
            }
            wide = tables.all[t].columns;
        }

        private void lookAtStep(Tables tables) {
            Step step = beginStep();
            step.kind = next(WHERE, GROUPS);
            switch (step.kind) {
                case WHERE:
                    nextColumn();
                    next(LESS, MORE);
                    nextAny();
                    break;
                case PICK:
                    lookAtPick();
                    break;
                case JOIN:
                    lookAtJoin(tables);
                    break;
                case SKIP:
                case FIRST:
                    next(0, GREATEST_INT);
                    break;
                case COUNT:
                    wide = 1;
                    break;
                case SUM:
                    nextColumn();
                    wide = 1;
                    break;
                case GROUPS:
                    nextColumn();
                    wide = 2;
                    break;
                default:
                    break;
            }
        }

        private void lookAtPick() {
            int n = next(1, MOST_WIDTH);
            for (int i = 0; i < n; i++) {
                nextColumn();
            }
            wide = n;
        }

        private void lookAtJoin(Tables tables) {
            int t = next(0, tables.made - 1);
            if (wrong != NONE) {
                return;
            }
            int sum = wide + tables.all[t].columns;
            if (sum > MOST_WIDTH) {
                wrong = at - 1;
            }
            nextIndexed(tables.all[t]);
            nextColumn();
            wide = sum;
        }

        private Step beginStep() {
            Step step = steps[count];
            step.place = at;
            step.wideBefore = wide;
            count++;
            return step;
        }

        private void nextColumn() {
            next(0, wide - 1);
        }

        private void nextAny() {
            next(LEAST_INT, GREATEST_INT);
        }

        private void nextIndexed(Table table) {
            int column = next(0, table.columns - 1);
            if (wrong == NONE && !table.indexed[column]) {
                wrong = at - 1;
            }
        }

        /**
         * The next word, which should be least .. most. The first word that is not, or is missing,
         * is the fault, and from then on nothing is looked at: the leftmost one counts.
         */
        private int next(int least, int most) {
            if (wrong != NONE) {
                return NONE;
            }
            if (at >= length || words[at] < least || words[at] > most) {
                wrong = at;
                return NONE;
            }
            at++;
            return words[at - 1];
        }
    }

    /** The rows of the latest run, one after the other. */
    private static final class Output {
        final int[] cells = new int[MOST_OUTPUT];
        int used;
        int count;

        void empty() {
            used = 0;
            count = 0;
        }

        boolean add(int[] row, int wide) {
            if (used + wide > MOST_OUTPUT) {
                return false;
            }
            for (int c = 0; c < wide; c++) {
                cells[used + c] = row[c];
            }
            used += wide;
            count++;
            return true;
        }
    }

    /**
     * One run of a plan without a fault. No step calls another: a step that is asked, given a row
     * or told of the end says what it does, and askForAll carries that to the one it concerns.
     */
    private static final class Run {
        private final Tables tables;
        private final Plan plan;
        private final Output output;
        private final int fuel;
        int visited;
        /** The one row that is on its way: no step gives a second one before this is done with. */
        private final int[] row = new int[MOST_WIDTH];

        Run(Tables tables, Plan plan, Output output, int fuel) {
            this.tables = tables;
            this.plan = plan;
            this.output = output;
            this.fuel = fuel;
        }

        /** Answers END when all rows are in the output, or OUT_OF_FUEL or OUTPUT_FULL. */
        int askForAll() {
            for (int s = 0; s < plan.count; s++) {
                begin(plan.steps[s]);
            }
            int last = plan.count - 1;
            int at = last;
            int news = ASK;
            // Far above any need: no step gives more rows than there are visits and one at the end,
            // and each is asked for once and given once.
            long most = (fuel + 4L) * 2 * MOST_STEPS;
            for (long moves = 0; moves < most && at >= 0; moves++) {
                int does = react(plan.steps[at], news);
                if (does == OUT_OF_FUEL) {
                    return OUT_OF_FUEL;
                }
                if (does == ASK || at < last) {
                    at += does == ASK ? -1 : 1;
                    news = does;
                } else if (does == END) {
                    return END;
                } else if (output.add(row, plan.wide)) {
                    news = ASK;
                } else {
                    return OUTPUT_FULL;
                }
            }
            return OUT_OF_FUEL;
        }

        private void begin(Step step) {
            step.tally = 0;
            step.over = false;
            switch (step.kind) {
                case ALL_ROWS:
                    step.table = wordOf(step, 1);
                    step.column = 0;
                    beginWalk(step, LEAST_INT, GREATEST_INT);
                    break;
                case ROWS_BETWEEN:
                    step.table = wordOf(step, 1);
                    step.column = wordOf(step, 2);
                    beginWalk(step, wordOf(step, 3), wordOf(step, 4));
                    break;
                case JOIN:
                    step.table = wordOf(step, 1);
                    step.column = wordOf(step, 2);
                    // At the end of a walk, so that it asks for a row first.
                    step.next = tables.all[step.table].count;
                    break;
                case SKIP:
                case FIRST:
                    step.tally = wordOf(step, 1);
                    break;
                default:
                    break;
            }
        }

        private int react(Step step, int news) {
            if (news == ASK) {
                return whenAsked(step);
            }
            return news == GIVE ? whenGiven(step) : whenEnded(step);
        }

        private int whenAsked(Step step) {
            switch (step.kind) {
                case ALL_ROWS:
                case ROWS_BETWEEN:
                    return walkOn(step, END);
                case JOIN:
                    return walkOn(step, ASK);
                case FIRST:
                    return step.tally == 0 ? END : ASK;
                default:
                    return step.over ? END : ASK;
            }
        }

        private int whenGiven(Step step) {
            switch (step.kind) {
                case WHERE:
                    return holds(cellOf(step, 1), wordOf(step, 2), wordOf(step, 3)) ? GIVE : ASK;
                case PICK:
                    pick(step);
                    return GIVE;
                case JOIN:
                    copyCells(row, step.kept, step.wideBefore);
                    beginWalk(step, cellOf(step, 3), cellOf(step, 3));
                    return walkOn(step, ASK);
                case SKIP:
                    return skipOrGive(step);
                case FIRST:
                    step.tally--;
                    return GIVE;
                case COUNT:
                    step.tally++;
                    return ASK;
                case SUM:
                    step.tally += cellOf(step, 1);
                    return ASK;
                case GROUPS:
                    return addToGroup(step, cellOf(step, 1));
                default:
                    return END;
            }
        }

        private int whenEnded(Step step) {
            switch (step.kind) {
                case COUNT:
                case SUM:
                    step.over = true;
                    row[0] = step.tally;
                    return GIVE;
                case GROUPS:
                    step.over = true;
                    if (step.tally == 0) {
                        return END;
                    }
                    writeGroup(step);
                    return GIVE;
                default:
                    return END;
            }
        }

        private int skipOrGive(Step step) {
            if (step.tally == 0) {
                return GIVE;
            }
            step.tally--;
            return ASK;
        }

        private int addToGroup(Step step, int cell) {
            if (step.tally == 0 || step.kept[0] == cell) {
                step.kept[0] = cell;
                step.tally++;
                return ASK;
            }
            writeGroup(step);
            step.kept[0] = cell;
            step.tally = 1;
            return GIVE;
        }

        private void writeGroup(Step step) {
            row[0] = step.kept[0];
            row[1] = step.tally;
        }

        private void pick(Step step) {
            int n = wordOf(step, 1);
            for (int i = 0; i < n; i++) {
                step.kept[i] = cellOf(step, 2 + i);
            }
            copyCells(step.kept, row, n);
        }

        private void beginWalk(Step step, int low, int high) {
            step.next = tables.all[step.table].placeFrom(step.column, low);
            step.high = high;
        }

        /** Takes the next row of the step's walk, a visit; does what is said at the walk's end. */
        private int walkOn(Step step, int atEnd) {
            Table table = tables.all[step.table];
            if (step.next >= table.count || table.cellAt(step.column, step.next) > step.high) {
                return atEnd;
            }
            if (visited >= fuel) {
                return OUT_OF_FUEL;
            }
            visited++;
            copyCells(step.kept, row, step.wideBefore);
            table.copyRow(step.column, step.next, row, step.wideBefore);
            step.next++;
            return GIVE;
        }

        private static void copyCells(int[] from, int[] to, int n) {
            for (int c = 0; c < n; c++) {
                to[c] = from[c];
            }
        }

        /** A word of the step, counted from the one that says which step it is. */
        private int wordOf(Step step, int n) {
            return plan.words[step.place + n];
        }

        /** The row's cell in the column that a word of the step names. */
        private int cellOf(Step step, int n) {
            return row[wordOf(step, n)];
        }

        private static boolean holds(int cell, int relation, int value) {
            switch (relation) {
                case LESS:
                    return cell < value;
                case NOT_MORE:
                    return cell <= value;
                case SAME:
                    return cell == value;
                case ANOTHER:
                    return cell != value;
                case NOT_LESS:
                    return cell >= value;
                case MORE:
                    return cell > value;
                default:
                    return false;
            }
        }
    }
}
