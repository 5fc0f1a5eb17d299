/** Counts answers that are due, and prints those that did not come. */
final class Due {
    /** A fault in the class may make very many answers wrong. */
    private static final int MOST_TOLD = 50;

    private int passed;
    private int failed;

    void is(String what, long got, long want) {
        if (got == want) {
            passed++;
            return;
        }
        failed++;
        if (failed <= MOST_TOLD) {
            System.out.println(what + " answered " + got + ", due is " + want);
        }
    }

    void holds(String what, boolean truth) {
        is(what, truth ? 1 : 0, 1);
    }

    /** A run of calls on a new object, to test a sentence of the document. */
    Run run(String sentence) {
        return new Run(this, sentence);
    }

    /** Ends the program, with exit code 1 if an answer was wrong. */
    void end() {
        System.out.println(passed + " passed, " + failed + " failed");
        System.exit(failed == 0 && passed > 0 ? 0 : 1);
    }
}
