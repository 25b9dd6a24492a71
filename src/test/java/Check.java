/** What all tests share: it prints each answer that is not the one that is due, and counts them. */
final class Check {
    /** A call of the class under test. */
    interface Call {
        void make();
    }

    private int wrong = 0;

    void due(String call, long got, long want) {
        if (got != want) {
            tell(call + " answered " + got + ", due is " + want);
        }
    }

    void dueFraction(String call, double got, double want) {
        if (Double.compare(got, want) != 0) {
            tell(call + " answered " + got + ", due is " + want);
        }
    }

    void dueText(String when, String got, String want) {
        if (!got.equals(want)) {
            tell(when + ": there is " + got + ", due is " + want);
        }
    }

    void dueThrow(String call, Class<? extends RuntimeException> want, Call made) {
        Class<?> got = null;
        try {
            made.make();
        } catch (RuntimeException e) {
            got = e.getClass();
        }
        if (got != want) {
            tell(call + " threw " + got + ", due is " + want);
        }
    }

    void dueBad(String call, Call made) {
        dueThrow(call, IllegalArgumentException.class, made);
    }

    /** The counts 0 to 6, in a row. */
    void dueCounts(String when, PipeComputer x, int... want) {
        for (int what = 0; what < want.length; what++) {
            due(when + ": count(" + what + ")", x.count(what), want[what]);
        }
    }

    /** Runs one instruction for each time, which is when it must begin. */
    void dueTimes(String what, PipeComputer x, int... times) {
        for (int k = 0; k < times.length; k++) {
            due(what + ": run(1) number " + k, x.run(1), 1);
            due(what + ": beginning of number " + k, x.count(3), times[k]);
        }
    }

    /** The instructions from a place on: each row has op, d, a, b, n. */
    void dueCode(String when, PipeComputer x, int from, int[]... rows) {
        for (int k = 0; k < rows.length; k++) {
            for (int what = 0; what < 5; what++) {
                String call = when + ": told(" + (from + k) + ", " + what + ")";
                due(call, x.told(from + k, what), rows[k][what]);
            }
        }
    }

    void tell(String text) {
        wrong++;
        System.out.println(text);
    }

    void end() {
        if (wrong != 0) {
            System.out.println(wrong + " answers are not as due");
            System.exit(1);
        }
    }

    /** All that the face tells but the code: some 80 calls. */
    static String stateOf(PipeComputer x) {
        StringBuilder text = new StringBuilder();
        for (int what = 0; what < 24; what++) {
            text.append(x.count(what)).append(' ');
        }
        for (int r = 0; r < 8; r++) {
            text.append(x.whole(r)).append(' ');
        }
        for (int r = 0; r < 4; r++) {
            text.append(x.fraction(r)).append(' ');
        }
        for (int i = 0; i < 48; i++) {
            text.append(x.memory(i)).append(' ');
        }
        return text.toString();
    }

    /** All of the code: 120 calls. */
    static String codeOf(PipeComputer x) {
        StringBuilder text = new StringBuilder();
        for (int i = 0; i < 24; i++) {
            text.append(codeAt(x, i));
        }
        return text.toString();
    }

    static String codeAt(PipeComputer x, int i) {
        StringBuilder text = new StringBuilder();
        for (int what = 0; what < 5; what++) {
            text.append(x.told(i, what)).append(' ');
        }
        return text.toString();
    }

    /** One row of code. */
    static int[] row(int op, int d, int a, int b, int n) {
        return new int[] {op, d, a, b, n};
    }

    static PipeComputer with(int[]... rows) {
        PipeComputer x = new PipeComputer();
        put(x, 0, rows);
        return x;
    }

    static PipeComputer startedWith(int[]... rows) {
        PipeComputer x = with(rows);
        x.start(0);
        return x;
    }

    static void put(PipeComputer x, int from, int[]... rows) {
        for (int k = 0; k < rows.length; k++) {
            int[] r = rows[k];
            x.code(from + k, r[0], r[1], r[2], r[3], r[4]);
        }
    }
}
