import java.util.Arrays;

/** The boundary cases of plans that are not run: words, faults and widths, promises 10 to 12 and 17. */
public final class PlanBoundariesTest {
    private static final int LEAST = Make.LEAST;
    private static final int GREATEST = Make.GREATEST;
    private static final Due due = new Due();

    /** Plans without a fault on ofTwo(), part by part: the source, and each step. */
    private static final int[][][] WHOLE = {
        {{1, 0}, {3, 0, 5, 7}, {8}},
        {{2, 0, 1, -9, 9}, {9, 3}, {10, 0}},
        {{1, 1}, {5, 0, 1, 2}, {4, 8, 0, 1, 2, 3, 4, 5, 6, 0}, {6, 0}, {7, GREATEST}},
        {{2, 1, 0, 0, 0}, {8}, {8}, {5, 0, 0, 0}, {10, 4}, {4, 1, 1}, {9, 0}},
        {{1, 0}, {7, 3}, {6, 3}, {5, 0, 1, 3}, {3, 7, 0, 0}, {10, 7}, {5, 1, 0, 1}, {9, 4}, {3, 0, 1, 2}},
    };

    public static void main(String[] args) {
        planTerms();
        missingWords();
        wrongWords();
        wrongColumns();
        tooWide();
        leftmost();
        byTheTables();
        words();
        width();
        due.end();
    }

    /** Table 0 of four columns, all indexed; table 1 of three, of which 2 is indexed and 1 is not. */
    private static PlannedTables ofTwo() {
        PlannedTables x = Make.tables(4, 3);
        Make.indexAll(x, 0, 4);
        x.index(1, 2);
        return x;
    }

    /** Each plan on an object of its own, which then has few calls. */
    private static void fault(int want, int... words) {
        due.fault(ofTwo(), want, words);
    }

    private static void planTerms() {
        due.sentence("A PLAN is a row of at most 40 WORDS (ints).", () -> {
            PlannedTables x = Make.tables(1);
            Make.plan(x, 1, 0);
            for (int w = 3; w <= 40; w++) {
                due.same("word " + w, x.word(8), true);
                due.same("the plan of " + w, x.fault(), -1);
            }
            for (int w = 41; w <= 43; w++) {
                due.same("word " + w, x.word(11), false);
                due.same("the plan is as it was", x.fault(), -1);
            }
            due.same("how many", x.clear(), 40);
        });
        due.sentence("A PLAN is a row of at most 40 WORDS, the last of them too", () -> {
            PlannedTables x = Make.tables(1);
            Make.plan(x, 1, 0);
            for (int w = 3; w <= 39; w++) {
                x.word(8);
            }
            due.same("word 40", x.word(9), true);
            due.same("a word is missing", x.fault(), 40);
            due.same("word 41", x.word(0), false);
            due.same("it is missing still", x.fault(), 40);
            Make.plan(x, 1, 0);
            for (int w = 3; w <= 39; w++) {
                x.word(8);
            }
            x.word(11);
            due.same("word 40 is no step", x.fault(), 39);
        });
        due.sentence("It is a SOURCE and any number of STEPS behind it", () -> {
            for (int steps = 0; steps <= 38; steps++) {
                PlannedTables x = Make.tables(2);
                Make.put(x, 0, 3, 4);
                Make.plan(x, 1, 0);
                for (int s = 0; s < steps; s++) {
                    x.word(8);
                }
                due.same(steps + " steps", x.fault(), -1);
                if (steps == 0) {
                    due.gives("no steps", x, 1, 3, 4);
                } else {
                    due.gives(steps + " steps", x, 1, 1);
                }
            }
        });
    }

    private static void missingWords() {
        due.sentence("A plan of no words has the fault 0.", () -> {
            due.fault(new PlannedTables(), 0);
            fault(0);
            PlannedTables x = ofTwo();
            Make.plan(x, 1, 0);
            due.same("of two words", x.fault(), -1);
            x.clear();
            due.same("of none again", x.fault(), 0);
            due.same("its width", x.width(), -1);
        });
        due.sentence("its length when words are missing", () -> {
            for (int[][] parts : WHOLE) {
                int[] before = {};
                for (int[] part : parts) {
                    for (int n = before.length == 0 ? 0 : 1; n < part.length; n++) {
                        fault(before.length + n, Make.join(before, Arrays.copyOf(part, n)));
                    }
                    before = Make.join(before, part);
                    fault(-1, before);
                }
            }
        });
    }

    private static void wrongWords() {
        due.sentence("a word that should say which source or step, and is none: a source", () -> {
            for (int w : new int[] {LEAST, -1, 0, 3, 4, 5, 6, 7, 8, 9, 10, 11, GREATEST}) {
                fault(0, w);
                fault(0, w, 0);
                fault(0, w, 0, 0, 0, 0);
            }
            fault(-1, 1, 0);
            fault(-1, 2, 0, 0, 0, 0);
        });
        due.sentence("a word that should say which source or step, and is none: a step", () -> {
            for (int w : new int[] {LEAST, -1, 0, 1, 2, 11, 12, GREATEST}) {
                fault(2, 1, 0, w);
                fault(2, 1, 0, w, 0, 0, 0, 0);
                fault(5, 2, 0, 0, 0, 0, w, 0);
                fault(3, 1, 0, 8, w);
                fault(6, 1, 0, 3, 0, 0, 0, w, 0, 0, 0);
            }
            fault(-1, 1, 0, 3, 0, 0, 0);
            fault(-1, 1, 0, 10, 0);
        });
        due.sentence("a t that is no table", () -> {
            for (int made = 0; made <= 4; made++) {
                for (int t : new int[] {LEAST, -1, 0, 1, 2, 3, 4, 5, GREATEST}) {
                    boolean there = t >= 0 && t < made;
                    int[] columns = new int[made];
                    Arrays.fill(columns, 1);
                    PlannedTables x = Make.tables(columns);
                    due.fault(x, there ? -1 : 1, 1, t);
                    due.fault(x, there ? -1 : 1, 2, t, 0, 0, 0);
                    due.fault(x, made == 0 ? 1 : there ? -1 : 3, 1, 0, 5, t, 0, 0);
                }
            }
        });
        due.sentence("an r or n that is not as said: r of step 3 from 0 to 5", () -> {
            for (int r : new int[] {LEAST, -1, 6, 7, GREATEST}) {
                fault(4, 1, 0, 3, 0, r, 0);
                fault(4, 1, 0, 3, 0, r);
            }
            for (int r = 0; r <= 5; r++) {
                fault(-1, 1, 0, 3, 0, r, 0);
            }
        });
        due.sentence("an r or n that is not as said: n of step 4 from 1 to 8", () -> {
            for (int n : new int[] {LEAST, -1, 0, 9, 10, GREATEST}) {
                fault(3, 1, 0, 4, n);
                fault(3, 1, 0, 4, n, 0, 0, 0, 0, 0, 0, 0, 0, 0, 0);
            }
            for (int n = 1; n <= 8; n++) {
                fault(-1, Make.ofWidth(0, n));
                due.same("the width of " + n, widthOf(Make.ofWidth(0, n)), n);
                fault(4 + n, Make.join(Make.ofWidth(0, n), 0));
                fault(3 + n, Arrays.copyOf(Make.ofWidth(0, n), 3 + n));
            }
        });
        due.sentence("an r or n that is not as said: n of steps 6 and 7 not below 0", () -> {
            for (int kind = 6; kind <= 7; kind++) {
                for (int n : new int[] {LEAST, LEAST + 1, -2, -1}) {
                    fault(3, 1, 0, kind, n);
                    fault(4, 1, 0, 8, kind, n, 8);
                }
                for (int n : new int[] {0, 1, 2, 48, 64, GREATEST - 1, GREATEST}) {
                    fault(-1, 1, 0, kind, n);
                }
            }
        });
        due.sentence("a, b and v may be any", () -> {
            for (int any : new int[] {LEAST, -1, 0, 1, 3, 10, 11, GREATEST}) {
                fault(-1, 2, 0, 0, any, 0);
                fault(-1, 2, 0, 0, 0, any);
                fault(-1, 2, 0, 0, any, any);
                fault(-1, 1, 0, 3, 0, 2, any);
                fault(-1, 1, 0, 3, 0, 2, any, 8);
            }
        });
    }

    private static void wrongColumns() {
        due.sentence("a c or d that is no column: source 2 and step 5", () -> {
            for (int columns = 1; columns <= 4; columns++) {
                for (int c : new int[] {LEAST, -1, 0, columns - 1, columns, columns + 1, GREATEST}) {
                    boolean there = c >= 0 && c < columns;
                    PlannedTables x = Make.tables(columns);
                    Make.indexAll(x, 0, columns);
                    due.fault(x, there ? -1 : 2, 2, 0, c, 0, 0);
                    due.fault(x, there ? -1 : 4, 1, 0, 5, 0, c, 0);
                }
            }
        });
        due.sentence("a c or d that is .. not indexed, as is needed", () -> {
            for (int c = 1; c < 4; c++) {
                PlannedTables x = Make.tables(4);
                due.fault(x, 2, 2, 0, c, 0, 0);
                due.fault(x, 4, 1, 0, 5, 0, c, 0);
                for (int other = 1; other < 4; other++) {
                    if (other != c) {
                        x.index(0, other);
                    }
                }
                due.fault(x, 2, 2, 0, c, 0, 0);
                due.fault(x, 4, 1, 0, 5, 0, c, 0);
                x.index(0, c);
                due.fault(x, -1, 2, 0, c, 0, 0);
                due.fault(x, -1, 1, 0, 5, 0, c, 0);
            }
        });
        due.sentence("A column in the words of a step, written c here, needs no index", () -> {
            for (int c = 0; c < 4; c++) {
                PlannedTables x = Make.tables(4);
                due.fault(x, -1, 1, 0, 3, c, 0, 0);
                due.fault(x, -1, 1, 0, 4, 1, c);
                due.fault(x, -1, 1, 0, 5, 0, 0, c);
                due.fault(x, -1, 1, 0, 9, c);
                due.fault(x, -1, 1, 0, 10, c);
            }
        });
        due.sentence("A column in the words of a step .. is one of the rows that come (0 .. width - 1).", () -> {
            for (int width = 1; width <= 8; width++) {
                for (int c : new int[] {LEAST, -1, 0, width - 1, width, width + 1, GREATEST}) {
                    boolean there = c >= 0 && c < width;
                    int[] before = Make.ofWidth(0, width);
                    int at = before.length;
                    fault(there ? -1 : at + 1, Make.join(before, 3, c, 0, 0));
                    fault(there ? -1 : at + 1, Make.join(before, 9, c));
                    fault(there ? -1 : at + 1, Make.join(before, 10, c));
                    for (int n = 1; n <= 8; n++) {
                        int[] columns = new int[n];
                        columns[n - 1] = c;
                        int[] words = Make.join(Make.join(before, 4, n), columns);
                        fault(there ? -1 : at + 1 + n, words);
                    }
                    if (width < 8) {
                        PlannedTables x = Make.tables(1);
                        due.fault(x, there ? -1 : at + 3, Make.join(before, 5, 0, 0, c));
                    }
                }
            }
        });
        due.sentence("a c .. not below the width: behind steps that make it another one", () -> {
            fault(-1, 1, 0, 8, 9, 0);
            fault(4, 1, 0, 8, 9, 1);
            fault(-1, 1, 0, 9, 3, 10, 0);
            fault(5, 1, 0, 9, 3, 10, 1);
            fault(-1, 1, 0, 10, 3, 9, 1);
            fault(5, 1, 0, 10, 3, 9, 2);
            fault(-1, 1, 1, 5, 0, 0, 2, 9, 6);
            fault(7, 1, 1, 5, 0, 0, 2, 9, 7);
            fault(5, 1, 1, 5, 0, 0, 3);
            fault(-1, 1, 0, 6, 1, 9, 3);
            fault(5, 1, 0, 6, 1, 9, 4);
            fault(-1, 1, 0, 7, 1, 9, 3);
            fault(5, 1, 0, 7, 1, 9, 4);
            fault(-1, 1, 0, 3, 0, 0, 0, 9, 3);
            fault(7, 1, 0, 3, 0, 0, 0, 9, 4);
        });
    }

    private static void tooWide() {
        due.sentence("the width is the sum of both, at most 8: in step 5 the place of t", () -> {
            for (int width = 1; width <= 8; width++) {
                for (int t = 0; t < 4; t++) {
                    int sum = width + t + 1;
                    int[] words = Make.join(Make.ofWidth(0, width), 5, t, 0, 0);
                    PlannedTables x = Make.tables(1, 2, 3, 4);
                    due.fault(x, sum <= 8 ? -1 : words.length - 3, words);
                    due.same("the width of " + width + " and " + (t + 1), x.width(), sum <= 8 ? sum : -1);
                }
            }
        });
        due.sentence("in step 5 the place of t when the width would be more than 8: whatever is behind t", () -> {
            int[] before = Make.ofWidth(0, 5);
            for (int[] behind : new int[][] {{}, {0}, {1}, {1, 0}, {0, 5}, {9, 9}, {-1, -1}, {0, 0, 11}}) {
                fault(10, Make.join(Make.join(before, 5, 0), behind));
            }
            fault(10, Make.join(before, 5));
            fault(10, Make.join(before, 5, 2, 0, 0));
            fault(11, Make.join(before, 5, 1));
            fault(-1, Make.join(before, 5, 1, 0, 0));
        });
        due.sentence("the width is the sum of both: one step 5 behind another", () -> {
            PlannedTables x = Make.tables(4, 1);
            due.fault(x, -1, 1, 0, 5, 0, 0, 3);
            due.fault(x, 7, 1, 0, 5, 0, 0, 3, 5, 1, 0, 0);
            due.fault(x, -1, 1, 1, 5, 0, 0, 0, 5, 1, 0, 4, 5, 1, 0, 5, 5, 1, 0, 6);
            due.same("eight at last", x.width(), 8);
            due.fault(x, 19, 1, 1, 5, 0, 0, 0, 5, 1, 0, 4, 5, 1, 0, 5, 5, 1, 0, 6, 5, 1, 0, 0);
            due.fault(x, -1, 1, 0, 5, 0, 0, 3, 4, 4, 0, 0, 0, 0, 5, 0, 0, 3);
        });
    }

    private static void leftmost() {
        due.sentence("the first word of it that is wrong .. looking from the left", () -> {
            fault(0, 3, 9, 11);
            fault(1, 1, 9, 11);
            fault(1, 2, 9, 9);
            fault(2, 2, 0, 9);
            fault(2, 2, 1, 1, 0, 0, 11);
            fault(2, 1, 0, 11, 9, 9);
            fault(3, 1, 0, 3, 4, 6, 0, 11);
            fault(4, 1, 0, 3, 3, 6);
            fault(3, 1, 0, 4, 9, 9, 9);
            fault(4, 1, 0, 4, 3, 4, 4);
            fault(6, 1, 0, 4, 3, 0, 0, 4, 99);
            fault(3, 1, 0, 5, 2, 9, 9);
            fault(4, 1, 0, 5, 1, 1, 9);
            fault(5, 1, 0, 5, 1, 2, 4, 99);
            fault(3, 1, 0, 6, -1, 99);
            fault(3, 1, 0, 7, -1, 99);
            fault(3, 1, 0, 9, 4, 99);
            fault(3, 1, 0, 10, 4, 99);
        });
        due.sentence("the place (from 0): wrong words put right one by one", () -> {
            int[] words = {0, 9, 11, 4, 6, 77, 11, -1};
            int[] right = {1, 0, 3, 3, 5, 77, 6, 0};
            int[] places = {0, 1, 2, 3, 4, 6, 7};
            for (int place : places) {
                fault(place, words);
                words[place] = right[place];
            }
            fault(-1, words);
        });
    }

    private static void byTheTables() {
        due.sentence("fault: The plan's fault, by the tables as they are", () -> {
            PlannedTables x = new PlannedTables();
            Make.plan(x, 2, 1, 3, 0, 0, 5, 2, 1, 3);
            due.same("no table", x.fault(), 1);
            x.table(1);
            due.same("one table", x.fault(), 1);
            x.table(4);
            due.same("two tables", x.fault(), 2);
            x.index(1, 2);
            due.same("another column is indexed", x.fault(), 2);
            x.index(1, 3);
            due.same("the column is indexed", x.fault(), 6);
            due.same("the width of a fault", x.width(), -1);
            x.table(2);
            due.same("three tables", x.fault(), 7);
            x.index(2, 1);
            due.same("that is all", x.fault(), -1);
            due.same("its width", x.width(), 6);
            Make.put(x, 1, 1, 1, 1, 1);
            x.delete(1, 1);
            due.same("rows come and go", x.fault(), -1);
        });
        due.sentence("fault: NONE when it has none.", () -> {
            for (int[][] parts : WHOLE) {
                PlannedTables x = ofTwo();
                for (int[] part : parts) {
                    Make.add(x, part);
                    due.same("fault()", x.fault(), -1);
                    due.holds("width()", x.width() >= 1 && x.width() <= 8);
                }
            }
        });
    }

    private static void words() {
        due.sentence("word: Puts a word behind the plan.", () -> {
            PlannedTables x = ofTwo();
            int[] words = {1, 1, 3, 2, 0, 8, 10, 2};
            int[] faults = {1, -1, 3, 4, 5, -1, 7, -1};
            for (int w = 0; w < words.length; w++) {
                due.same("word", x.word(words[w]), true);
                due.same("fault of " + (w + 1) + " words", x.fault(), faults[w]);
            }
            due.same("how many", x.clear(), 8);
        });
        due.sentence("word: Answers true; false when it has 40.", () -> {
            PlannedTables x = new PlannedTables();
            for (int w : new int[] {LEAST, -1, 0, GREATEST}) {
                for (int n = 1; n <= 40; n++) {
                    due.same("word " + n, x.word(w), true);
                }
                due.same("word 41", x.word(w), false);
                due.same("word 42", x.word(1), false);
                due.same("clear()", x.clear(), 40);
            }
        });
        due.sentence("clear: The plan has no words then. Answers how many it had.", () -> {
            for (int n = 0; n <= 41; n++) {
                PlannedTables x = ofTwo();
                for (int w = 0; w < n; w++) {
                    x.word(w == 1 ? 0 : w == 0 ? 1 : 8);
                }
                due.same("clear() of " + n, x.clear(), Math.min(n, 40));
                due.same("it has none then", x.fault(), 0);
                due.same("clear() again", x.clear(), 0);
                x.word(1);
                due.same("no word of before is behind a new one", x.fault(), 1);
            }
        });
    }

    private static int widthOf(int... words) {
        PlannedTables x = ofTwo();
        Make.plan(x, words);
        return x.width();
    }

    private static void width() {
        due.sentence("width: The width of the plan's rows", () -> {
            due.same("all rows", widthOf(1, 0), 4);
            due.same("all rows", widthOf(1, 1), 3);
            due.same("rows between", widthOf(2, 1, 2, 0, 0), 3);
            due.same("step 3", widthOf(1, 1, 3, 0, 0, 0), 3);
            due.same("step 4 of 1", widthOf(1, 1, 4, 1, 2), 1);
            due.same("step 4 of 8", widthOf(1, 1, 4, 8, 0, 0, 0, 0, 0, 0, 0, 0), 8);
            due.same("step 5", widthOf(1, 1, 5, 1, 0, 0), 6);
            due.same("step 5", widthOf(1, 0, 5, 0, 0, 0), 8);
            due.same("step 6", widthOf(1, 1, 6, 5), 3);
            due.same("step 7", widthOf(1, 1, 7, 0), 3);
            due.same("step 8", widthOf(1, 1, 8), 1);
            due.same("step 9", widthOf(1, 1, 9, 2), 1);
            due.same("step 10", widthOf(1, 1, 10, 2), 2);
            due.same("step 10 of a row of one cell", widthOf(1, 1, 8, 10, 0), 2);
        });
        due.sentence("width: by the tables as they are", () -> {
            for (int columns = 1; columns <= 4; columns++) {
                PlannedTables x = new PlannedTables();
                Make.plan(x, 1, 0);
                due.same("no table", x.width(), -1);
                x.table(columns);
                due.same("a table of " + columns, x.width(), columns);
                x.word(5);
                due.same("words are missing", x.width(), -1);
                Make.add(x, 1, 0, 0);
                due.same("no second table", x.width(), -1);
                x.table(4);
                due.same("a second table", x.width(), columns + 4);
            }
        });
        due.sentence("width: NONE when it has a fault.", () -> {
            due.same("no words", widthOf(), -1);
            due.same("no source", widthOf(3), -1);
            due.same("words are missing", widthOf(1), -1);
            due.same("words are missing behind a width", widthOf(1, 0, 9), -1);
            due.same("no such column", widthOf(1, 0, 9, 4), -1);
            due.same("the column before it", widthOf(1, 0, 9, 3), 1);
            due.same("a width of 9", widthOf(Make.join(Make.ofWidth(0, 6), 5, 1, 0, 0)), -1);
            due.same("a width of 8", widthOf(Make.join(Make.ofWidth(0, 5), 5, 1, 0, 0)), 8);
            due.same("not indexed", widthOf(2, 1, 1, 0, 0), -1);
        });
    }
}
