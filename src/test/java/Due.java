/** What the tests share: an answer against the one that is due, and the end with exit code 1 if one was wrong. */
final class Due {
    private static final int MOST_TOLD = 40;
    private static int checked = 0;
    private static int wrong = 0;
    private static String place = "";

    private Due() {
    }

    /** One sentence of the document, with its own words, so that what is broken can be found there. */
    static void sentence(String where, String words, Runnable test) {
        int checkedBefore = checked;
        int wrongBefore = wrong;
        place = where + " \"" + words + "\": ";
        try {
            test.run();
        } catch (RuntimeException e) {
            tell("the test", "no exception", e.toString());
        }
        if (checked == checkedBefore) {
            tell("the test", "answers", "none");
        }
        System.out.println((wrong == wrongBefore ? "  holds   " : "  BROKEN  ") + where + ": " + words);
        place = "";
    }

    static void same(String call, int want, int got) {
        tell(call, String.valueOf(want), String.valueOf(got));
    }

    static void same(String call, double want, double got) {
        tell(call, String.valueOf(want), String.valueOf(got));
    }

    static void same(String call, String want, String got) {
        tell(call, want, got);
    }

    static void refused(String call, Class<? extends RuntimeException> want, Runnable run) {
        String got = "nothing";
        try {
            run.run();
        } catch (RuntimeException e) {
            got = e.getClass().getName();
        }
        tell(call, want.getName(), got);
    }

    static void badArgument(String call, Runnable run) {
        refused(call, IllegalArgumentException.class, run);
    }

    static void badState(String call, Runnable run) {
        refused(call, IllegalStateException.class, run);
    }

    static void badIndex(String call, Runnable run) {
        refused(call, IndexOutOfBoundsException.class, run);
    }

    static void unsupported(String call, Runnable run) {
        refused(call, UnsupportedOperationException.class, run);
    }

    private static void tell(String call, String want, String got) {
        checked++;
        if (!want.equals(got)) {
            wrong++;
            if (wrong <= MOST_TOLD) {
                System.out.println(place + call + " answered " + got + ", due is " + want);
            }
        }
    }

    static void end() {
        System.out.println(checked + " answers looked at, " + wrong + " not as due");
        if (wrong != 0 || checked == 0) {
            System.exit(1);
        }
    }
}
