/** Compares answers with what is due, and counts those that differ. */
final class Check {
    private final String title;
    private String sentence = "";
    private int all;
    private int wrong;
    private int sentences;

    Check(String title) {
        this.title = title;
    }

    /** What follows is due by a sentence of the document, which has to stand there. */
    void says(String heading, String words) {
        sentences++;
        sentence = "";
        due("the document says under " + heading + ": " + words, Doc.says(heading, words), true);
        sentence = " (" + heading + ": \"" + words + "\")";
    }

    void due(String what, long got, long want) {
        all++;
        if (got != want) {
            tell(what, String.valueOf(got), String.valueOf(want));
        }
    }

    void due(String what, String got, String want) {
        all++;
        if (!got.equals(want)) {
            tell(what, got, want);
        }
    }

    void due(String what, boolean got, boolean want) {
        due(what, got ? 1 : 0, want ? 1 : 0);
    }

    private void tell(String what, String got, String want) {
        wrong++;
        System.out.println(title + ": " + what + " answered " + got + ", due is " + want + sentence);
    }

    /** The call has to throw just this exception. */
    void refused(String what, Class<?> want, Runnable call) {
        due(what + " throws", thrownBy(call), want.getSimpleName());
    }

    static String thrownBy(Runnable call) {
        try {
            call.run();
        } catch (RuntimeException e) {
            return e.getClass().getSimpleName();
        }
        return "nothing";
    }

    void end() {
        String by = sentences == 0 ? "" : " by " + sentences + " sentences";
        System.out.println(title + ": " + all + " answers" + by + ", " + wrong + " wrong");
        if (wrong != 0) {
            System.exit(1);
        }
    }
}
