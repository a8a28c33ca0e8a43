/** Compares answers with those that are due, and tells those that are not. */
final class Due {
    private int asked = 0;
    private int wrong = 0;

    void is(String call, long got, long want) {
        asked++;
        if (got != want) {
            wrong++;
            System.out.println(call + " answered " + got + ", due is " + want);
        }
    }

    void holds(String what, boolean so) {
        asked++;
        if (!so) {
            wrong++;
            System.out.println("not so: " + what);
        }
    }

    boolean failed() {
        return wrong != 0;
    }

    /** Ends the program, with exit code 1 if an answer was not the one that is due. */
    void end() {
        System.out.println(asked + " answers, " + wrong + " not as due");
        if (failed()) {
            System.exit(1);
        }
    }
}
