/** Compares answers with those that are due, and ends the test with code 1 if one was wrong. */
final class Due {
    /** Of each sentence, so that one that is broken does not drown another. */
    private static final int MOST_PRINTED = 100;

    private static int asked = 0;
    private static int wrong = 0;
    private static int wrongBefore = 0;
    private static String about = "";

    private Due() {
    }

    /** Runs the test of one sentence of the document; one that asks nothing, or throws, is wrong too. */
    static void sentence(String text, Runnable test) {
        int before = asked;
        wrongBefore = wrong;
        about = "[" + text + "] ";
        try {
            test.run();
        } catch (RuntimeException e) {
            count("the test ended with " + e);
        }
        if (asked == before) {
            count("the test asked nothing");
        }
        about = "";
        if (wrong - wrongBefore > MOST_PRINTED) {
            System.out.println("[" + text + "] and " + (wrong - wrongBefore - MOST_PRINTED) + " more");
        }
    }

    static void is(String call, long got, long due) {
        asked++;
        if (got != due) {
            count(call + " answered " + got + ", due is " + due);
        }
    }

    private static void count(String what) {
        wrong++;
        if (about.isEmpty() || wrong - wrongBefore <= MOST_PRINTED) {
            System.out.println(about + what);
        }
    }

    static void yes(String call, boolean got) {
        is(call, got ? 1 : 0, 1);
    }

    static void no(String call, boolean got) {
        is(call, got ? 1 : 0, 0);
    }

    static int wrongSoFar() {
        return wrong;
    }

    static void end() {
        System.out.println(asked + " answers asked, " + wrong + " wrong");
        if (wrong != 0 || asked == 0) {
            System.exit(1);
        }
    }
}
