/** Compares answers with those that are due, and tells at the end how many were wrong. */
final class Check {
    interface Call {
        long answer();
    }

    private int right;
    private int wrong;

    void due(String call, long got, long want) {
        if (got == want) {
            right++;
        } else {
            fail(call + " answered " + got + ", due is " + want);
        }
    }

    void due(String call, boolean got, boolean want) {
        due(call, got ? 1 : 0, want ? 1 : 0);
    }

    void isTrue(String what, boolean holds) {
        due(what, holds, true);
    }

    /** Two texts of many lines: tells the first line in which they differ. */
    void alike(String what, String got, String want) {
        if (got.equals(want)) {
            right++;
            return;
        }
        String[] gotLines = got.split("\n");
        String[] wantLines = want.split("\n");
        int line = 0;
        while (line < gotLines.length && line < wantLines.length && gotLines[line].equals(wantLines[line])) {
            line++;
        }
        fail(what + ": got " + (line < gotLines.length ? gotLines[line] : "no more") + ", due is "
                + (line < wantLines.length ? wantLines[line] : "no more"));
    }

    void illegalArgument(String call, Call made) {
        throwing(call, made, IllegalArgumentException.class);
    }

    void illegalState(String call, Call made) {
        throwing(call, made, IllegalStateException.class);
    }

    void outOfBounds(String call, Call made) {
        throwing(call, made, IndexOutOfBoundsException.class);
    }

    void unsupported(String call, Call made) {
        throwing(call, made, UnsupportedOperationException.class);
    }

    private void throwing(String call, Call made, Class<? extends RuntimeException> want) {
        try {
            fail(call + " answered " + made.answer() + ", due is " + want.getSimpleName());
        } catch (RuntimeException thrown) {
            if (thrown.getClass() == want) {
                right++;
            } else {
                fail(call + " threw " + thrown + ", due is " + want.getSimpleName());
            }
        }
    }

    private void fail(String what) {
        wrong++;
        if (wrong <= 40) {
            System.out.println("  " + what);
        }
    }

    /** Ends the run: exit code 1 if an answer was wrong. */
    void finish() {
        System.out.println("  " + right + " answers as due, " + wrong + " not");
        if (wrong > 0 || right == 0) {
            System.exit(1);
        }
    }
}
