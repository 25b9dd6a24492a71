/** A call that is refused changes nothing, also nothing that only later calls would show. */
final class RefusedCallTest {
    private static final Check CHECK = new Check();
    private static final int STEPS = 60;

    public static void main(String[] args) {
        whileItRuns();
        whileStopped();
        CHECK.end();
    }

    /** A loop that uses the divider, both caches and the predictor. */
    private static PipeComputer busy() {
        PipeComputer x = Check.with(
                Check.row(1, 1, 0, 0, 7), Check.row(15, 1, 1, 0, 0), Check.row(13, 2, 1, 1, 0),
                Check.row(6, 3, 2, 0, 0), Check.row(9, 0, 2, 2, 8), Check.row(1, 2, 2, 0, 5),
                Check.row(5, 4, 2, 1, 0), Check.row(17, 0, 4, 0, 10), Check.row(10, 3, 3, 2, 0),
                Check.row(19, 0, 0, 0, 2), Check.row(8, 3, 0, 0, 20), Check.row(18, 0, 3, 2, 13),
                Check.row(0, 0, 0, 0, 0), Check.row(1, 2, 0, 0, 1), Check.row(19, 0, 0, 0, 2));
        x.cell(0, 3.0);
        x.cell(20, 0.5);
        return x;
    }

    private static void whileItRuns() {
        PipeComputer plain = busy();
        plain.start(0);
        plain.run(STEPS);
        CHECK.due("the loop goes on", plain.count(1), 0);
        CHECK.due("it was predicted wrongly", plain.count(6) > 3 ? 1 : 0, 1);
        CHECK.due("lines were missing", plain.count(5) > 3 ? 1 : 0, 1);
        String want = Check.stateOf(plain);
        String code = Check.codeOf(plain);
        for (int before = 1; before < STEPS; before++) {
            PipeComputer x = busy();
            x.start(0);
            x.run(before);
            makeRefusedCalls("behind " + before, x);
            x.run(STEPS - before);
            CHECK.dueText("refused calls behind " + before, Check.stateOf(x), want);
            CHECK.dueText("refused calls behind " + before, Check.codeOf(x), code);
        }
    }

    private static void whileStopped() {
        PipeComputer x = busy();
        dueSame("new", x);
        PipeComputer halted = busy();
        halted.code(9, 0, 0, 0, 0, 0);
        halted.start(0);
        halted.run(300);
        dueSame("STOPPED by HALT", halted);
        PipeComputer thrown = busy();
        thrown.code(9, 13, 0, 0, 0, 0);
        thrown.start(0);
        CHECK.dueThrow("13", ArithmeticException.class, () -> thrown.run(300));
        dueSame("STOPPED by 13", thrown);
    }

    private static void dueSame(String when, PipeComputer x) {
        String want = Check.stateOf(x);
        makeRefusedCalls(when, x);
        CHECK.dueThrow(when + ": run(1)", IllegalStateException.class, () -> x.run(1));
        CHECK.dueThrow(when + ": run(300)", IllegalStateException.class, () -> x.run(300));
        CHECK.dueText(when, Check.stateOf(x), want);
    }

    private static void makeRefusedCalls(String when, PipeComputer x) {
        CHECK.dueBad(when + ": code", () -> x.code(-1, 0, 0, 0, 0, 0));
        CHECK.dueBad(when + ": code", () -> x.code(24, 0, 0, 0, 0, 0));
        CHECK.dueBad(when + ": code", () -> x.code(3, 20, 0, 0, 0, 0));
        CHECK.dueBad(when + ": code", () -> x.code(3, 0, 8, 0, 0, 0));
        CHECK.dueBad(when + ": code", () -> x.code(3, 0, 0, 8, 0, 0));
        CHECK.dueBad(when + ": code", () -> x.code(3, 0, 0, 0, 8, 0));
        CHECK.dueBad(when + ": cell", () -> x.cell(48, 0.0));
        CHECK.dueBad(when + ": cell", () -> x.cell(0, 1000001.0));
        CHECK.dueBad(when + ": start", () -> x.start(24));
        CHECK.dueBad(when + ": start", () -> x.start(-1));
        CHECK.dueBad(when + ": run", () -> x.run(0));
        CHECK.dueBad(when + ": run", () -> x.run(301));
        CHECK.dueBad(when + ": whole", () -> x.whole(8));
        CHECK.dueBad(when + ": fraction", () -> x.fraction(4));
        CHECK.dueBad(when + ": memory", () -> x.memory(48));
        CHECK.dueBad(when + ": told", () -> x.told(24, 0));
        CHECK.dueBad(when + ": told", () -> x.told(0, 5));
        CHECK.due(when + ": count(7)", x.count(7), -2);
    }
}
