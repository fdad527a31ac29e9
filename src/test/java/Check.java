/** Counts the answers that are not as due, and prints them. */
final class Check {
    private int wrong = 0;
    private String promise = "";

    /** A call that is expected to throw, or of which only the answer matters. */
    interface Call {
        long answer();
    }

    void begin(String name) {
        promise = name;
    }

    void due(String call, long got, long want) {
        if (got != want) {
            wrong++;
            System.out.println(promise + ": " + call + " answered " + got + ", due is " + want);
        }
    }

    void due(String call, boolean got, boolean want) {
        due(call, got ? 1 : 0, want ? 1 : 0);
    }

    void dueText(String call, String got, String want) {
        if (!got.equals(want)) {
            wrong++;
            System.out.println(promise + ": " + call + " answered " + got + ", due is " + want);
        }
    }

    void dueThrow(String call, Class<? extends RuntimeException> want, Call run) {
        dueText(call, told(run), "throws." + want.getSimpleName());
    }

    /** The answer of a call as a text, or the name of what it threw. */
    static String told(Call run) {
        try {
            return Long.toString(run.answer());
        } catch (RuntimeException e) {
            return "throws." + e.getClass().getSimpleName();
        }
    }

    void end() {
        System.out.println(wrong == 0 ? "all answers are as due" : wrong + " answers are not as due");
        if (wrong != 0) {
            System.exit(1);
        }
    }
}
