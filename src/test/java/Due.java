import java.util.Arrays;

/** Collects the answers that are not as due. */
final class Due {
    private int checked = 0;
    private int wrong = 0;
    private int sentences = 0;
    private String sentence = "";

    /** The test of one sentence of the document; what is not as due is told under the sentence. */
    void sentence(String text, Runnable test) {
        int before = checked;
        sentence = "\"" + text + "\": ";
        sentences++;
        try {
            test.run();
        } catch (RuntimeException got) {
            tell("a call threw " + got + " at " + Arrays.toString(got.getStackTrace()));
        }
        if (checked == before) {
            tell("nothing was looked at");
        }
        sentence = "";
    }

    void same(String what, long got, long want) {
        checked++;
        if (got != want) {
            tell(what + " answered " + got + ", due is " + want);
        }
    }

    void same(String what, boolean got, boolean want) {
        same(what, got ? 1 : 0, want ? 1 : 0);
    }

    void same(String what, String got, String want) {
        checked++;
        if (!got.equals(want)) {
            tell(what + " is\n" + got + ", due is\n" + want);
        }
    }

    void holds(String what, boolean holds) {
        checked++;
        if (!holds) {
            tell(what + " does not hold");
        }
    }

    void refused(String what, Class<? extends RuntimeException> want, Runnable call) {
        checked++;
        try {
            call.run();
        } catch (RuntimeException got) {
            if (got.getClass() != want) {
                tell(what + " threw " + got.getClass().getName() + ", due is " + want.getName());
            }
            return;
        }
        tell(what + " threw nothing, due is " + want.getName());
    }

    void output(String what, PlannedTables x, int... want) {
        checked++;
        int[] got = new int[Math.max(0, x.size())];
        for (int i = 0; i < got.length; i++) {
            got[i] = x.out(i);
        }
        if (!Arrays.equals(got, want)) {
            tell(what + " put out " + Arrays.toString(got) + ", due is " + Arrays.toString(want));
        }
    }

    /** Runs the plan that stands: with just enough fuel it gives the output, with one less it throws. */
    void gives(String what, PlannedTables x, int visits, int... output) {
        if (visits > 0) {
            refused(what + " with less fuel", IllegalStateException.class, () -> x.run(visits - 1));
        }
        int wide = x.width();
        holds(what + " has a width", wide > 0);
        same(what + " rows", x.run(visits), output.length / Math.max(1, wide));
        output(what, x, output);
        same(what + " visits", x.visits(), visits);
    }

    /** The plan of these words has this fault; one with a fault has no width and is not run. */
    void fault(PlannedTables x, int want, int... words) {
        Make.plan(x, words);
        String what = "plan " + Arrays.toString(words);
        same(what + " fault()", x.fault(), want);
        if (want == PlannedTables.NONE) {
            holds(what + " has a width", x.width() > 0);
        } else {
            same(what + " width()", x.width(), PlannedTables.NONE);
            refused(what + " run(9)", IllegalArgumentException.class, () -> x.run(9));
        }
    }

    void end() {
        String said = sentences == 0 ? "" : sentences + " sentences, ";
        System.out.println(said + checked + " answers looked at, " + wrong + " not as due");
        if (wrong != 0 || checked == 0) {
            System.exit(1);
        }
    }

    private void tell(String text) {
        wrong++;
        if (wrong <= 50) {
            System.out.println(sentence + text);
        }
    }
}
