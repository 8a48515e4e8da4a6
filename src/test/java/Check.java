/** Counts the answers that are not as due, prints each, and ends the test with 1 if there was one. */
final class Check {
    private static final int MOST_PRINTED = 40;

    private final String test;
    private String words = "";
    private int asked;
    private int wrong;

    Check(String test) {
        this.test = test;
    }

    /** The words of the document that the answers from here on are about; they must stand there. */
    void says(String words) {
        this.words = " [" + words + "]";
        holds("the document says this", Document.says(words));
    }

    void due(String call, int got, int want) {
        asked++;
        if (got == want) {
            return;
        }
        wrong++;
        if (wrong <= MOST_PRINTED) {
            System.out.println(test + words + ": " + call + " answered " + got + ", due is " + want);
        }
    }

    void holds(String what, boolean is) {
        due(what, is ? 1 : 0, 1);
    }

    boolean hasFailed() {
        return wrong != 0;
    }

    void end() {
        System.out.println(test + ": " + asked + " answers, " + wrong + " not as due");
        if (wrong != 0) {
            System.exit(1);
        }
    }
}
