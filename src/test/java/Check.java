/** Compares answers with what is due, and counts those that differ. */
final class Check {
    private final String title;
    private int all;
    private int wrong;

    Check(String title) {
        this.title = title;
    }

    void due(String what, long got, long want) {
        all++;
        if (got != want) {
            wrong++;
            System.out.println(title + ": " + what + " answered " + got + ", due is " + want);
        }
    }

    void due(String what, String got, String want) {
        all++;
        if (!got.equals(want)) {
            wrong++;
            System.out.println(title + ": " + what + " answered " + got + ", due is " + want);
        }
    }

    void due(String what, boolean got, boolean want) {
        due(what, got ? 1 : 0, want ? 1 : 0);
    }

    /** The call has to throw just this exception. */
    void refused(String what, Class<?> want, Runnable call) {
        String got = "nothing";
        try {
            call.run();
        } catch (RuntimeException e) {
            got = e.getClass().getSimpleName();
        }
        due(what + " throws", got, want.getSimpleName());
    }

    void end() {
        System.out.println(title + ": " + all + " answers, " + wrong + " wrong");
        if (wrong != 0) {
            System.exit(1);
        }
    }
}
