/** Counts answers that are due, and prints those that did not come. */
final class Due {
    private int passed;
    private int failed;

    void is(String what, long got, long want) {
        if (got == want) {
            passed++;
            return;
        }
        failed++;
        System.out.println(what + " answered " + got + ", due is " + want);
    }

    void holds(String what, boolean truth) {
        is(what, truth ? 1 : 0, 1);
    }

    /** Ends the program, with exit code 1 if an answer was wrong. */
    void end() {
        System.out.println(passed + " passed, " + failed + " failed");
        System.exit(failed == 0 && passed > 0 ? 0 : 1);
    }
}
