import java.util.Arrays;

/** Collects the answers that are not as due. */
final class Due {
    private int checked = 0;
    private int wrong = 0;

    void same(String what, long got, long want) {
        checked++;
        if (got != want) {
            tell(what + " answered " + got + ", due is " + want);
        }
    }

    void same(String what, boolean got, boolean want) {
        same(what, got ? 1 : 0, want ? 1 : 0);
    }

    void holds(String what, boolean holds) {
        checked++;
        if (!holds) {
            tell(what + " does not hold");
        }
    }

    void refused(String what, Class<? extends RuntimeException> want, Runnable call) {
        checked++;
        try {
            call.run();
        } catch (RuntimeException got) {
            if (got.getClass() != want) {
                tell(what + " threw " + got.getClass().getName() + ", due is " + want.getName());
            }
            return;
        }
        tell(what + " threw nothing, due is " + want.getName());
    }

    void output(String what, PlannedTables x, int... want) {
        checked++;
        int[] got = new int[Math.max(0, x.size())];
        for (int i = 0; i < got.length; i++) {
            got[i] = x.out(i);
        }
        if (!Arrays.equals(got, want)) {
            tell(what + " put out " + Arrays.toString(got) + ", due is " + Arrays.toString(want));
        }
    }

    void end() {
        System.out.println(checked + " answers looked at, " + wrong + " not as due");
        if (wrong != 0 || checked == 0) {
            System.exit(1);
        }
    }

    private void tell(String text) {
        wrong++;
        if (wrong <= 50) {
            System.out.println(text);
        }
    }
}
