/** Compares answers with those that are due, counts what is wrong, and ends a test with the exit code that tells it. */
final class Expect {
    interface Call {
        long answer();
    }

    private final String test;
    private int seen;
    private int wrong;

    Expect(String test) {
        this.test = test;
    }

    void same(String what, long due, long got) {
        seen++;
        if (due != got) {
            tellWrong(what + " answered " + got + ", due is " + due);
        }
    }

    void yes(String what, boolean got) {
        same(what, 1, got ? 1 : 0);
    }

    void no(String what, boolean got) {
        same(what, 0, got ? 1 : 0);
    }

    void illegalArgument(String what, Call call) {
        refused(what, IllegalArgumentException.class, call);
    }

    void illegalState(String what, Call call) {
        refused(what, IllegalStateException.class, call);
    }

    /** For a call whose answer another test looks at: it only may not throw. */
    void answers(String what, Call call) {
        seen++;
        try {
            call.answer();
        } catch (RuntimeException thrown) {
            tellWrong(what + " threw " + thrown + ", due is an answer");
        }
    }

    void end() {
        System.out.println(test + ": " + (seen - wrong) + " of " + seen + " answers are as due");
        if (wrong > 0 || seen == 0) {
            System.exit(1);
        }
    }

    private void refused(String what, Class<?> due, Call call) {
        seen++;
        try {
            long got = call.answer();
            tellWrong(what + " answered " + got + ", due is " + due.getSimpleName());
        } catch (RuntimeException thrown) {
            if (thrown.getClass() != due) {
                tellWrong(what + " threw " + thrown + ", due is " + due.getSimpleName());
            }
        }
    }

    private void tellWrong(String line) {
        wrong++;
        if (wrong <= 20) {
            System.out.println(test + ": " + line);
        }
    }
}
