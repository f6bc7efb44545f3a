/** Counts the answers that are not as due, and ends the test accordingly. */
final class Check {
    private String sentence = "";
    private int askedBefore = 0;
    private int wrong = 0;
    private int asked = 0;

    /** What is asked from here on tests this sentence of the document. */
    void sentence(String words) {
        endSentence();
        sentence = words;
        askedBefore = asked;
    }

    void due(String what, long got, long want) {
        asked++;
        if (got != want) {
            fail(what + " answered " + got + ", due is " + want);
        }
    }

    void due(String what, boolean got, boolean want) {
        due(what, got ? 1 : 0, want ? 1 : 0);
    }

    void due(String what, String got, String want) {
        asked++;
        if (!got.equals(want)) {
            fail(what + " answered " + got + ", due is " + want);
        }
    }

    int wrong() {
        return wrong;
    }

    void finish() {
        endSentence();
        System.out.println(wrong == 0 ? asked + " answers are as due" : wrong + " of " + asked + " are not as due");
        if (wrong != 0) {
            System.exit(1);
        }
    }

    private void endSentence() {
        if (!sentence.isEmpty() && asked == askedBefore) {
            fail("nothing was asked");
        }
    }

    private void fail(String text) {
        wrong++;
        System.out.println(sentence.isEmpty() ? text : text + "  [" + sentence + "]");
    }
}
