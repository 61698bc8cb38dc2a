/** Compares answers with those that are due, and tells at the end how many were wrong. */
final class Check {
    interface Call {
        long answer();
    }

    private int right;
    private int wrong;

    void due(String call, long got, long want) {
        if (got == want) {
            right++;
        } else {
            fail(call + " answered " + got + ", due is " + want);
        }
    }

    void due(String call, boolean got, boolean want) {
        due(call, got ? 1 : 0, want ? 1 : 0);
    }

    void isTrue(String what, boolean holds) {
        due(what, holds, true);
    }

    void illegalArgument(String call, Call made) {
        throwing(call, made, IllegalArgumentException.class);
    }

    void illegalState(String call, Call made) {
        throwing(call, made, IllegalStateException.class);
    }

    void outOfBounds(String call, Call made) {
        throwing(call, made, IndexOutOfBoundsException.class);
    }

    void unsupported(String call, Call made) {
        throwing(call, made, UnsupportedOperationException.class);
    }

    private void throwing(String call, Call made, Class<? extends RuntimeException> want) {
        try {
            fail(call + " answered " + made.answer() + ", due is " + want.getSimpleName());
        } catch (RuntimeException thrown) {
            if (thrown.getClass() == want) {
                right++;
            } else {
                fail(call + " threw " + thrown + ", due is " + want.getSimpleName());
            }
        }
    }

    private void fail(String what) {
        wrong++;
        if (wrong <= 40) {
            System.out.println("  " + what);
        }
    }

    /** Ends the run: exit code 1 if an answer was wrong. */
    void finish() {
        System.out.println("  " + right + " answers as due, " + wrong + " not");
        if (wrong > 0 || right == 0) {
            System.exit(1);
        }
    }
}
