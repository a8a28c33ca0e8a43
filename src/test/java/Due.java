/** Compares answers with those that are due, and tells those that are not. */
final class Due {
    private String sentence = "";
    private int asked = 0;
    private int wrong = 0;

    /** What is asked from now on is asked for a sentence of the document, which stands ahead of what is wrong. */
    void beginSentence(String text) {
        sentence = text + " | ";
    }

    void is(String call, long got, long want) {
        asked++;
        if (got != want) {
            wrong++;
            System.out.println(sentence + call + " answered " + got + ", due is " + want);
        }
    }

    void holds(String what, boolean so) {
        asked++;
        if (!so) {
            wrong++;
            System.out.println(sentence + "not so: " + what);
        }
    }

    int asked() {
        return asked;
    }

    boolean failed() {
        return wrong != 0;
    }

    /** Ends the program, with exit code 1 if an answer was not the one that is due. */
    void end() {
        System.out.println(asked + " answers, " + wrong + " not as due");
        if (failed()) {
            System.exit(1);
        }
    }
}
