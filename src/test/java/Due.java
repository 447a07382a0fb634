/** Counts the answers that are not as due, and tells each of them. */
final class Due {
    private final String test;
    private String sentence = "";
    private int wrong = 0;
    private int asked = 0;
    private int askedBefore = 0;
    private int sentences = 0;

    Due(String test) {
        this.test = test;
    }

    /** What is asked from now on is asked because of this sentence of the document. */
    void says(String where, String words) {
        isAsked();
        sentence = " [" + where + ": \"" + words + "\"]";
        askedBefore = asked;
        sentences++;
    }

    void is(String what, long got, long want) {
        asked++;
        if (got != want) {
            tell(what + " answered " + got + ", due is " + want);
        }
    }

    void holds(String what, boolean held) {
        is(what, held ? 1 : 0, 1);
    }

    boolean anyWrong() {
        return wrong != 0;
    }

    void end() {
        isAsked();
        String of = sentences == 0 ? "" : " on " + sentences + " sentences";
        System.out.println(test + ": " + asked + " answers" + of + ", " + wrong + " not as due");
        if (wrong != 0) {
            System.exit(1);
        }
    }

    /** A sentence without an answer is a test that could not fail. */
    private void isAsked() {
        if (sentences > 0 && asked == askedBefore) {
            tell("nothing was asked");
        }
    }

    private void tell(String fault) {
        wrong++;
        if (wrong <= 40) {
            System.out.println(test + sentence + ": " + fault);
        }
    }
}
