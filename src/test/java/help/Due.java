/** Compares answers with those that are due, prints what differs, and ends the test. */
final class Due {
    interface Call {
        long answer();
    }

    private final String test;
    private int asked = 0;
    private int wrong = 0;

    Due(String itsTest) {
        test = itsTest;
    }

    void is(String call, long got, long want) {
        asked++;
        if (got != want) {
            wrong++;
            System.out.println(test + ": " + call + " answered " + got + ", due is " + want);
        }
    }

    void is(String call, boolean got, boolean want) {
        is(call, got ? 1 : 0, want ? 1 : 0);
    }

    void is(String call, String got, String want) {
        asked++;
        if (!got.equals(want)) {
            wrong++;
            System.out.println(test + ": " + call + " answered " + got + ", due is " + want);
        }
    }

    void bounds(CompatibilityJudge x, String call, Call it) {
        refused(x, call, IndexOutOfBoundsException.class, it);
    }

    void argument(CompatibilityJudge x, String call, Call it) {
        refused(x, call, IllegalArgumentException.class, it);
    }

    void state(CompatibilityJudge x, String call, Call it) {
        refused(x, call, IllegalStateException.class, it);
    }

    /** The very class of the exception counts, and that the call changed nothing. */
    private void refused(CompatibilityJudge x, String call, Class<?> due, Call it) {
        asked++;
        long before = x.checksum();
        String got;
        try {
            got = String.valueOf(it.answer());
        } catch (RuntimeException e) {
            got = e.getClass().getName();
        }
        if (!got.equals(due.getName())) {
            wrong++;
            System.out.println(test + ": " + call + " answered " + got + ", due is " + due.getName());
        }
        is("the checksum behind " + call, x.checksum(), before);
    }

    void end() {
        System.out.println(test + ": " + asked + " answers, " + wrong + " wrong");
        if (wrong != 0) {
            System.exit(1);
        }
    }
}
