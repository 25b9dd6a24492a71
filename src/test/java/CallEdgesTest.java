/** Promises 1 to 4 and 7 to 11: each sentence of them that names an edge, with a test of its own. */
final class CallEdgesTest {
    private static final Check CHECK = new Check();
    private static final int LEAST = Integer.MIN_VALUE;
    private static final int GREATEST = Integer.MAX_VALUE;
    private static final int[] OUTSIDE_CODE = {-1, 24, LEAST, GREATEST};
    private static final int[] OUTSIDE_MEMORY = {-1, 48, LEAST, GREATEST};

    public static void main(String[] args) {
        newIsStoppedAtZero();
        newHoldsNothing();
        newSharesNothing();
        codeTakesAllItsRange();
        codeRefusesPlaces();
        codeRefusesOps();
        codeRefusesRegisters();
        codeTakesAnyNumber();
        codeStartsNothing();
        cellTakesAllItsRange();
        cellRefusesPlaces();
        cellRefusesValues();
        startTakesAllPlaces();
        startRefusesPlaces();
        startFromEveryState();
        startLeavesCodeAndCells();
        wholeHasEight();
        fractionHasFour();
        memoryHasFortyEight();
        toldHasFivePartsOfTwentyFour();
        countKnowsItsNumbers();
        countWithoutABeginning();
        CHECK.end();
    }

    /** "STOPPED at 0." */
    private static void newIsStoppedAtZero() {
        PipeComputer x = new PipeComputer();
        CHECK.dueCounts("new", x, 0, 1, 0, -1, 0, 0, 0);
        CHECK.dueThrow("new: run(1)", IllegalStateException.class, () -> x.run(1));
        CHECK.dueThrow("new: run(300)", IllegalStateException.class, () -> x.run(300));
        CHECK.due("new: schedule()", x.schedule(), 0);
        CHECK.dueCounts("new, refused", x, 0, 1, 0, -1, 0, 0, 0);
    }

    /** "All as at first": "CELLS 0 .. 47, doubles, 0.0 at first", "HALT at first". */
    private static void newHoldsNothing() {
        PipeComputer x = new PipeComputer();
        for (int i = 0; i < 24; i++) {
            CHECK.dueCode("new", x, i, Check.row(0, 0, 0, 0, 0));
        }
        for (int i = 0; i < 48; i++) {
            CHECK.dueFraction("new: memory(" + i + ")", x.memory(i), 0.0);
        }
        for (int i = 0; i < 24; i++) {
            x.start(i);
            CHECK.due("new: run(300) from " + i, x.run(300), 1);
            CHECK.due("new: HALT at " + i, x.count(0), i);
        }
    }

    /** "All as at first", also where another object is in use. */
    private static void newSharesNothing() {
        PipeComputer used = Check.with(Check.row(1, 1, 0, 0, 1), Check.row(7, 0, 0, 1, 5));
        PipeComputer x = new PipeComputer();
        used.start(0);
        used.run(300);
        PipeComputer y = new PipeComputer();
        for (PipeComputer other : new PipeComputer[] {x, y}) {
            CHECK.dueCounts("beside one that is used", other, 0, 1, 0, -1, 0, 0, 0);
            CHECK.dueCode("beside one that is used", other, 0, Check.row(0, 0, 0, 0, 0));
            CHECK.dueFraction("beside one that is used: memory(5)", other.memory(5), 0.0);
            CHECK.due("beside one that is used: whole(1)", other.whole(1), 0);
        }
    }

    /** "INSTRUCTION i (0 .. 23) becomes this, op 0 .. 19, d, a, b 0 .. 7." */
    private static void codeTakesAllItsRange() {
        PipeComputer x = new PipeComputer();
        for (int op = 0; op <= 19; op++) {
            // The numbers are kept as they are, also where they name an F modulo 4.
            int[] row = Check.row(op, 7 - op % 8, op % 8, (op + 3) % 8, op - 10);
            x.code(op, row[0], row[1], row[2], row[3], row[4]);
            CHECK.dueCode("code with op " + op, x, op, row);
        }
        Check.put(x, 0, Check.row(19, 7, 7, 7, 0));
        Check.put(x, 23, Check.row(19, 7, 7, 7, 0));
        CHECK.dueCode("the first", x, 0, Check.row(19, 7, 7, 7, 0));
        CHECK.dueCode("the last", x, 23, Check.row(19, 7, 7, 7, 0));
        Check.put(x, 23, Check.row(0, 0, 0, 0, 0));
        CHECK.dueCode("the last again", x, 22, Check.row(0, 0, 0, 0, 0), Check.row(0, 0, 0, 0, 0));
        CHECK.dueCode("the one before stays", x, 19, Check.row(19, 4, 3, 6, 9));
    }

    /** "Bad is .. a number out of range": "i (0 .. 23)". */
    private static void codeRefusesPlaces() {
        PipeComputer x = new PipeComputer();
        for (int i : OUTSIDE_CODE) {
            CHECK.dueBad("code(" + i + ", ..)", () -> x.code(i, 1, 1, 1, 1, 1));
        }
        for (int i = 0; i < 24; i++) {
            CHECK.dueCode("refused places", x, i, Check.row(0, 0, 0, 0, 0));
        }
    }

    /** "Bad is .. a number out of range": "op 0 .. 19". */
    private static void codeRefusesOps() {
        PipeComputer x = Check.with(Check.row(1, 2, 3, 4, 5));
        for (int op : new int[] {-1, 20, LEAST, GREATEST}) {
            CHECK.dueBad("code with op " + op, () -> x.code(0, op, 1, 1, 1, 1));
        }
        CHECK.dueCode("refused ops", x, 0, Check.row(1, 2, 3, 4, 5));
    }

    /** d, a and b are looked at for every op, also for one that uses none of them. */
    private static void codeRefusesRegisters() {
        PipeComputer x = Check.with(Check.row(1, 2, 3, 4, 5));
        int[] outside = {-1, 8, LEAST, GREATEST};
        for (int op : new int[] {0, 1, 10, 19}) {
            for (int r : outside) {
                CHECK.dueBad(op + " with d " + r, () -> x.code(0, op, r, 0, 0, 0));
                CHECK.dueBad(op + " with a " + r, () -> x.code(0, op, 0, r, 0, 0));
                CHECK.dueBad(op + " with b " + r, () -> x.code(0, op, 0, 0, r, 0));
            }
        }
        CHECK.dueCode("refused registers", x, 0, Check.row(1, 2, 3, 4, 5));
    }

    /** "and a number n": no bound is told. */
    private static void codeTakesAnyNumber() {
        PipeComputer x = new PipeComputer();
        for (int n : new int[] {LEAST, -25, -24, -1, 0, 23, 24, 47, 48, GREATEST}) {
            for (int op : new int[] {0, 1, 6, 9, 13, 17, 19}) {
                x.code(7, op, 0, 0, 0, n);
                CHECK.due("n of " + op + ": told(7, 4)", x.told(7, 4), n);
            }
        }
    }

    /** "INSTRUCTION i .. becomes this", and no more: it stays STOPPED, or goes on with what is there now. */
    private static void codeStartsNothing() {
        PipeComputer x = Check.startedWith(Check.row(1, 1, 0, 0, 1));
        x.run(2);
        x.code(1, 1, 2, 0, 0, 1);
        CHECK.dueCounts("code in place of the HALT", x, 1, 1, 2, 5, 1, 0, 0);
        CHECK.dueThrow("code in place of the HALT: run(1)", IllegalStateException.class, () -> x.run(1));
        x.start(0);
        x.run(1);
        x.code(1, 1, 3, 0, 0, 8);
        CHECK.due("code that is due next: run(1)", x.run(1), 1);
        CHECK.due("code that is due next: whole(3)", x.whole(3), 8);
        CHECK.due("code that is due next: whole(2)", x.whole(2), 0);
    }

    /** "CELL i (0 .. 47) becomes v (-1000000.0 .. 1000000.0)." */
    private static void cellTakesAllItsRange() {
        PipeComputer x = new PipeComputer();
        double[] inside = {1000000.0, -1000000.0, Math.nextDown(1000000.0), Math.nextUp(-1000000.0), 0.0, -0.0,
            Double.MIN_VALUE, -Double.MIN_VALUE, 0.1};
        for (double v : inside) {
            for (int i : new int[] {0, 1, 46, 47}) {
                x.cell(i, v);
                CHECK.dueFraction("cell(" + i + ", " + v + ")", x.memory(i), v);
            }
        }
        CHECK.dueFraction("the second stays", x.memory(2), 0.0);
        CHECK.dueFraction("the last but two stays", x.memory(45), 0.0);
    }

    /** "Bad is .. a number out of range": "CELL i (0 .. 47)". */
    private static void cellRefusesPlaces() {
        PipeComputer x = new PipeComputer();
        for (int i : OUTSIDE_MEMORY) {
            CHECK.dueBad("cell(" + i + ", 1.0)", () -> x.cell(i, 1.0));
            CHECK.dueBad("cell(" + i + ", 1000001.0)", () -> x.cell(i, 1000001.0));
        }
        for (int i = 0; i < 48; i++) {
            CHECK.dueFraction("refused places: memory(" + i + ")", x.memory(i), 0.0);
        }
    }

    /** "Bad is .. a number out of range": "v (-1000000.0 .. 1000000.0)". */
    private static void cellRefusesValues() {
        PipeComputer x = new PipeComputer();
        double[] outside = {Math.nextUp(1000000.0), Math.nextDown(-1000000.0), 1000001.0, -1000001.0,
            Double.MAX_VALUE, -Double.MAX_VALUE, Double.POSITIVE_INFINITY, Double.NEGATIVE_INFINITY, Double.NaN};
        for (int i : new int[] {0, 47}) {
            x.cell(i, 2.5);
            for (double v : outside) {
                CHECK.dueBad("cell(" + i + ", " + v + ")", () -> x.cell(i, v));
                CHECK.dueFraction("refused value " + v, x.memory(i), 2.5);
            }
        }
    }

    /** "It's at INSTRUCTION i, not STOPPED; registers are 0." */
    private static void startTakesAllPlaces() {
        PipeComputer x = new PipeComputer();
        for (int i = 0; i < 24; i++) {
            x.start(i);
            CHECK.dueCounts("start(" + i + ")", x, i, 0, 0, -1, 0, 0, 0);
        }
    }

    /** "Bad is .. a number out of range": "INSTRUCTION i", of 0 .. 23. */
    private static void startRefusesPlaces() {
        PipeComputer x = Check.with(Check.row(1, 1, 0, 0, 6), Check.row(15, 1, 1, 0, 0));
        for (int i : OUTSIDE_CODE) {
            CHECK.dueBad("new: start(" + i + ")", () -> x.start(i));
            CHECK.dueCounts("new, refused", x, 0, 1, 0, -1, 0, 0, 0);
        }
        x.start(0);
        x.run(2);
        for (int i : OUTSIDE_CODE) {
            CHECK.dueBad("running: start(" + i + ")", () -> x.start(i));
            CHECK.dueCounts("running, refused", x, 2, 0, 2, 5, 1, 0, 0);
            CHECK.due("running, refused: whole(1)", x.whole(1), 6);
            CHECK.dueFraction("running, refused: fraction(1)", x.fraction(1), 6.0);
            CHECK.due("running, refused: count(21)", x.count(21), 8);
        }
    }

    /** "not STOPPED; registers are 0", whatever was before. */
    private static void startFromEveryState() {
        PipeComputer x = Check.with(Check.row(1, 1, 0, 0, 6), Check.row(15, 3, 1, 0, 0), Check.row(0, 0, 0, 0, 0),
                Check.row(13, 0, 0, 0, 0), Check.row(6, 0, 0, 0, 48));
        x.start(0);
        dueStarted("just started", x);
        x.run(2);
        dueStarted("in the midst", x);
        x.run(3);
        dueStarted("STOPPED by HALT", x);
        x.code(2, 1, 2, 0, 0, 3);
        CHECK.dueThrow("run(4)", ArithmeticException.class, () -> x.run(4));
        dueStarted("STOPPED by 13", x);
        x.code(3, 1, 7, 0, 0, 3);
        CHECK.dueThrow("run(5)", IndexOutOfBoundsException.class, () -> x.run(5));
        dueStarted("STOPPED by 6", x);
    }

    private static void dueStarted(String when, PipeComputer x) {
        x.start(0);
        CHECK.dueCounts(when, x, 0, 0, 0, -1, 0, 0, 0);
        for (int r = 0; r < 8; r++) {
            CHECK.due(when + ": whole(" + r + ")", x.whole(r), 0);
            CHECK.due(when + ": count(" + (10 + r) + ")", x.count(10 + r), 0);
        }
        for (int r = 0; r < 4; r++) {
            CHECK.dueFraction(when + ": fraction(" + r + ")", x.fraction(r), 0.0);
            CHECK.due(when + ": count(" + (20 + r) + ")", x.count(20 + r), 0);
        }
    }

    /** "registers are 0": nothing is said of CODE and CELLS, so they stay. */
    private static void startLeavesCodeAndCells() {
        PipeComputer x = Check.with(Check.row(1, 1, 0, 0, 6), Check.row(7, 0, 0, 1, 47));
        x.cell(0, 1.5);
        x.start(0);
        x.run(2);
        x.start(23);
        CHECK.dueFraction("put in: memory(0)", x.memory(0), 1.5);
        CHECK.dueFraction("stored: memory(47)", x.memory(47), 6.0);
        CHECK.dueCode("start leaves code", x, 0, Check.row(1, 1, 0, 0, 6), Check.row(7, 0, 0, 1, 47));
    }

    /** "Rr (0 .. 7)." */
    private static void wholeHasEight() {
        PipeComputer x = new PipeComputer();
        for (int r = 0; r < 8; r++) {
            x.code(r, 1, r, 0, 0, 70 + r);
        }
        x.start(0);
        x.run(8);
        CHECK.due("whole(0)", x.whole(0), 0);
        for (int r = 1; r < 8; r++) {
            CHECK.due("whole(" + r + ")", x.whole(r), 70 + r);
        }
        for (int r : new int[] {-1, 8, LEAST, GREATEST}) {
            CHECK.dueBad("whole(" + r + ")", () -> x.whole(r));
        }
    }

    /** "Fr (0 .. 3)": no number modulo 4 here. */
    private static void fractionHasFour() {
        PipeComputer x = new PipeComputer();
        for (int r = 0; r < 4; r++) {
            x.code(r, 8, r, 0, 0, r);
            x.cell(r, r + 0.5);
        }
        x.start(0);
        x.run(4);
        for (int r = 0; r < 4; r++) {
            CHECK.dueFraction("fraction(" + r + ")", x.fraction(r), r + 0.5);
        }
        for (int r : new int[] {-1, 4, 7, LEAST, GREATEST}) {
            CHECK.dueBad("fraction(" + r + ")", () -> x.fraction(r));
        }
    }

    /** "CELL i." */
    private static void memoryHasFortyEight() {
        PipeComputer x = new PipeComputer();
        for (int i = 0; i < 48; i++) {
            x.cell(i, 100.0 + i);
        }
        for (int i = 0; i < 48; i++) {
            CHECK.dueFraction("memory(" + i + ")", x.memory(i), 100.0 + i);
        }
        for (int i : OUTSIDE_MEMORY) {
            CHECK.dueBad("memory(" + i + ")", () -> x.memory(i));
        }
    }

    /** "Of INSTRUCTION i: its OP (what 0), d, a, b (1 .. 3), n (4)." */
    private static void toldHasFivePartsOfTwentyFour() {
        PipeComputer x = new PipeComputer();
        for (int i = 0; i < 24; i++) {
            x.code(i, i % 20, i % 8, (i + 1) % 8, (i + 2) % 8, 1000 + i);
        }
        for (int i = 0; i < 24; i++) {
            CHECK.dueCode("told", x, i, Check.row(i % 20, i % 8, (i + 1) % 8, (i + 2) % 8, 1000 + i));
        }
        for (int i : OUTSIDE_CODE) {
            CHECK.dueBad("told(" + i + ", 0)", () -> x.told(i, 0));
            CHECK.dueBad("told(" + i + ", 5)", () -> x.told(i, 5));
        }
        for (int what : new int[] {-1, 5, LEAST, GREATEST}) {
            CHECK.dueBad("told(0, " + what + ")", () -> x.told(0, what));
            CHECK.dueBad("told(23, " + what + ")", () -> x.told(23, what));
        }
    }

    /** "else -2." */
    private static void countKnowsItsNumbers() {
        PipeComputer x = Check.startedWith(Check.row(15, 0, 0, 0, 0), Check.row(17, 0, 0, 0, 2));
        x.run(3);
        int[] known = {2, 1, 3, 8, 1, 0, 1};
        for (int what = -30; what <= 60; what++) {
            int want = what >= 0 && what <= 6 ? known[what] : -2;
            if (what >= 10 && what <= 17 || what >= 20 && what <= 23) {
                want = what == 20 ? 7 : 0;
            }
            CHECK.due("count(" + what + ")", x.count(what), want);
        }
        CHECK.due("count(least)", x.count(LEAST), -2);
        CHECK.due("count(greatest)", x.count(GREATEST), -2);
    }

    /** "when the latest one BEGAN (3; -1 if there was none)." */
    private static void countWithoutABeginning() {
        PipeComputer x = Check.with(Check.row(1, 1, 0, 0, 1), Check.row(7, 0, 0, 0, -1));
        CHECK.due("new: count(3)", x.count(3), -1);
        x.start(0);
        CHECK.due("started: count(3)", x.count(3), -1);
        x.run(1);
        CHECK.due("done: count(3)", x.count(3), 4);
        x.start(1);
        CHECK.due("started again: count(3)", x.count(3), -1);
        CHECK.dueThrow("run(1)", IndexOutOfBoundsException.class, () -> x.run(1));
        CHECK.due("the first throws: count(3)", x.count(3), -1);
    }
}
