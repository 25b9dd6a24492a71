/** Promises 1 to 4 and 7 to 11: what a new object holds, what is put in, and what is asked. */
final class StateTest {
    private static final Check CHECK = new Check();

    public static void main(String[] args) {
        newObject();
        codeAndTold();
        badCodeAndTold();
        cellsAndMemory();
        start();
        startMakesAllNew();
        badAsking();
        counts();
        CHECK.end();
    }

    private static void newObject() {
        PipeComputer x = new PipeComputer();
        CHECK.dueCounts("new", x, 0, 1, 0, -1, 0, 0, 0);
        for (int i = 0; i < 24; i++) {
            CHECK.dueCode("new", x, i, Check.row(0, 0, 0, 0, 0));
        }
        for (int i = 0; i < 48; i++) {
            CHECK.dueFraction("new: memory(" + i + ")", x.memory(i), 0.0);
        }
        for (int r = 0; r < 8; r++) {
            CHECK.due("new: whole(" + r + ")", x.whole(r), 0);
            CHECK.due("new: count(" + (10 + r) + ")", x.count(10 + r), 0);
        }
        for (int r = 0; r < 4; r++) {
            CHECK.dueFraction("new: fraction(" + r + ")", x.fraction(r), 0.0);
            CHECK.due("new: count(" + (20 + r) + ")", x.count(20 + r), 0);
        }
        CHECK.dueThrow("new: run(1)", IllegalStateException.class, () -> x.run(1));
    }

    private static void codeAndTold() {
        PipeComputer x = new PipeComputer();
        x.code(0, 19, 7, 6, 5, -2147483648);
        x.code(23, 13, 7, 7, 7, 2147483647);
        x.code(5, 1, 2, 3, 4, 6);
        CHECK.dueCode("code", x, 0, Check.row(19, 7, 6, 5, -2147483648));
        CHECK.dueCode("code", x, 23, Check.row(13, 7, 7, 7, 2147483647));
        CHECK.dueCode("code", x, 5, Check.row(1, 2, 3, 4, 6));
        x.code(5, 0, 0, 0, 0, 0);
        CHECK.dueCode("code again", x, 4, Check.row(0, 0, 0, 0, 0), Check.row(0, 0, 0, 0, 0));
    }

    private static void badCodeAndTold() {
        PipeComputer x = Check.with(Check.row(1, 2, 3, 4, 5));
        CHECK.dueBad("code i -1", () -> x.code(-1, 0, 0, 0, 0, 0));
        CHECK.dueBad("code i 24", () -> x.code(24, 0, 0, 0, 0, 0));
        CHECK.dueBad("code op -1", () -> x.code(0, -1, 0, 0, 0, 0));
        CHECK.dueBad("code op 20", () -> x.code(0, 20, 0, 0, 0, 0));
        CHECK.dueBad("code d -1", () -> x.code(0, 0, -1, 0, 0, 0));
        CHECK.dueBad("code d 8", () -> x.code(0, 0, 8, 0, 0, 0));
        CHECK.dueBad("code a -1", () -> x.code(0, 0, 0, -1, 0, 0));
        CHECK.dueBad("code a 8", () -> x.code(0, 0, 0, 8, 0, 0));
        CHECK.dueBad("code b -1", () -> x.code(0, 0, 0, 0, -1, 0));
        CHECK.dueBad("code b 8", () -> x.code(0, 0, 0, 0, 8, 0));
        CHECK.dueBad("code d 4 for an F, a 8", () -> x.code(0, 10, 4, 8, 0, 0));
        CHECK.dueCode("bad code leaves all", x, 0, Check.row(1, 2, 3, 4, 5));
        CHECK.dueBad("told(-1, 0)", () -> x.told(-1, 0));
        CHECK.dueBad("told(24, 0)", () -> x.told(24, 0));
        CHECK.dueBad("told(0, -1)", () -> x.told(0, -1));
        CHECK.dueBad("told(0, 5)", () -> x.told(0, 5));
    }

    private static void cellsAndMemory() {
        PipeComputer x = new PipeComputer();
        x.cell(0, 1000000.0);
        x.cell(47, -1000000.0);
        x.cell(46, 0.5);
        CHECK.dueFraction("memory(0)", x.memory(0), 1000000.0);
        CHECK.dueFraction("memory(47)", x.memory(47), -1000000.0);
        CHECK.dueFraction("memory(46)", x.memory(46), 0.5);
        CHECK.dueFraction("memory(1)", x.memory(1), 0.0);
        CHECK.dueBad("cell(-1, 0.0)", () -> x.cell(-1, 0.0));
        CHECK.dueBad("cell(48, 0.0)", () -> x.cell(48, 0.0));
        CHECK.dueBad("cell above", () -> x.cell(0, 1000000.0000001));
        CHECK.dueBad("cell below", () -> x.cell(0, -1000000.0000001));
        CHECK.dueBad("cell endless", () -> x.cell(0, Double.POSITIVE_INFINITY));
        CHECK.dueBad("cell no number", () -> x.cell(0, Double.NaN));
        CHECK.dueFraction("bad cell leaves all", x.memory(0), 1000000.0);
        CHECK.dueBad("memory(-1)", () -> x.memory(-1));
        CHECK.dueBad("memory(48)", () -> x.memory(48));
    }

    private static void start() {
        PipeComputer x = new PipeComputer();
        x.start(23);
        CHECK.dueCounts("start(23)", x, 23, 0, 0, -1, 0, 0, 0);
        CHECK.dueBad("start(-1)", () -> x.start(-1));
        CHECK.dueBad("start(24)", () -> x.start(24));
        CHECK.dueCounts("bad start leaves all", x, 23, 0, 0, -1, 0, 0, 0);
        CHECK.due("run", x.run(1), 1);
        CHECK.dueBad("start(24), stopped", () -> x.start(24));
        CHECK.dueCounts("bad start leaves it stopped", x, 23, 1, 1, 4, 1, 0, 0);
    }

    private static void startMakesAllNew() {
        PipeComputer x = Check.with(
                Check.row(1, 1, 0, 0, 3), Check.row(15, 1, 1, 0, 0), Check.row(9, 0, 0, 1, 40),
                Check.row(13, 2, 1, 1, 0), Check.row(17, 0, 0, 0, 4));
        x.start(0);
        CHECK.due("run(9)", x.run(9), 9);
        CHECK.dueCounts("before", x, 4, 0, 9, 20, 2, 1, 1);
        CHECK.due("whole(1)", x.whole(1), 3);
        x.start(0);
        CHECK.dueCounts("started again", x, 0, 0, 0, -1, 0, 0, 0);
        for (int r = 0; r < 8; r++) {
            CHECK.due("started again: whole", x.whole(r), 0);
            CHECK.due("started again: ready", x.count(10 + r), 0);
        }
        for (int r = 0; r < 4; r++) {
            CHECK.dueFraction("started again: fraction", x.fraction(r), 0.0);
            CHECK.due("started again: ready", x.count(20 + r), 0);
        }
        CHECK.dueFraction("cells stay", x.memory(40), 3.0);
        CHECK.dueCode("code stays", x, 1, Check.row(15, 1, 1, 0, 0));
        x.run(9);
        CHECK.dueCounts("the same again", x, 4, 0, 9, 20, 2, 1, 1);
    }

    private static void badAsking() {
        PipeComputer x = new PipeComputer();
        CHECK.dueBad("whole(-1)", () -> x.whole(-1));
        CHECK.dueBad("whole(8)", () -> x.whole(8));
        CHECK.dueBad("fraction(-1)", () -> x.fraction(-1));
        CHECK.dueBad("fraction(4)", () -> x.fraction(4));
    }

    private static void counts() {
        PipeComputer x = new PipeComputer();
        int[] none = {-2147483648, -1, 7, 8, 9, 18, 19, 24, 25, 100, 2147483647};
        for (int what : none) {
            CHECK.due("count(" + what + ")", x.count(what), -2);
        }
        int[][] rows = new int[12][];
        for (int k = 0; k < 8; k++) {
            rows[k] = Check.row(1, k, 0, 0, 10 + k);
        }
        for (int k = 0; k < 4; k++) {
            rows[8 + k] = Check.row(15, k, 0, 0, 0);
        }
        Check.put(x, 0, rows);
        x.start(0);
        x.run(12);
        int[] ready = {0, 6, 7, 8, 13, 14, 15, 16, 23, 24, 25, 26};
        for (int k = 0; k < 8; k++) {
            CHECK.due("count(" + (10 + k) + ")", x.count(10 + k), ready[k]);
            CHECK.due("whole(" + k + ")", x.whole(k), k == 0 ? 0 : 10 + k);
        }
        for (int k = 0; k < 4; k++) {
            CHECK.due("count(" + (20 + k) + ")", x.count(20 + k), ready[8 + k]);
        }
    }
}
