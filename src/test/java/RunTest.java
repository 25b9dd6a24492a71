/** Promises 5 and 12: what each op does, where the computer stops, and what it throws. */
final class RunTest {
    private static final Check CHECK = new Check();

    public static void main(String[] args) {
        howMany();
        badRuns();
        wholes();
        fractions();
        fractionsModuloFour();
        loadsAndStores();
        jumps();
        addresses();
        divisionByZero();
        outcomes();
        whatThrowingLeaves();
        CHECK.end();
    }

    private static void howMany() {
        PipeComputer x = Check.startedWith(Check.row(1, 1, 1, 0, 1), Check.row(1, 1, 1, 0, 1));
        CHECK.due("run(1)", x.run(1), 1);
        CHECK.dueCounts("after 1", x, 1, 0, 1, 4);
        CHECK.due("run(300)", x.run(300), 2);
        CHECK.dueCounts("halted", x, 2, 1, 3, 6);
        CHECK.dueThrow("run(1), stopped", IllegalStateException.class, () -> x.run(1));
        CHECK.dueCounts("still halted", x, 2, 1, 3, 6);
        x.start(1);
        CHECK.due("run(2), HALT is the last", x.run(2), 2);
        CHECK.due("stopped", x.count(1), 1);
        PipeComputer y = Check.startedWith(Check.row(19, 0, 0, 0, 0));
        CHECK.due("run(300), no end", y.run(300), 300);
        CHECK.dueCounts("no end", y, 0, 0, 300, 303, 1, 0, 0);
    }

    private static void badRuns() {
        PipeComputer x = new PipeComputer();
        int[] bad = {0, -1, 301, -2147483648, 2147483647};
        for (int n : bad) {
            CHECK.dueBad("run(" + n + "), stopped", () -> x.run(n));
        }
        x.start(0);
        for (int n : bad) {
            CHECK.dueBad("run(" + n + ")", () -> x.run(n));
        }
        CHECK.dueCounts("bad runs leave all", x, 0, 0, 0, -1, 0, 0, 0);
    }

    /** R1 and R2 hold a and b; the outcome of the op is in R3. */
    private static int whole(int op, int a, int b) {
        PipeComputer x = Check.startedWith(
                Check.row(1, 1, 0, 0, a), Check.row(1, 2, 0, 0, b), Check.row(op, 3, 1, 2, 0));
        x.run(4);
        return x.whole(3);
    }

    private static void wholes() {
        CHECK.due("1 with n 0", whole(1, 41, 2), 41);
        CHECK.due("2", whole(2, 41, -2), 39);
        CHECK.due("2 wraps", whole(2, 2147483647, 1), -2147483648);
        CHECK.due("3", whole(3, 41, -2), 43);
        CHECK.due("3 wraps", whole(3, -2147483648, 1), 2147483647);
        CHECK.due("4", whole(4, 41, -2), -82);
        CHECK.due("4 wraps", whole(4, 65537, 65537), 131073);
        CHECK.due("5 below", whole(5, -3, -2), 1);
        CHECK.due("5 equal", whole(5, -2, -2), 0);
        CHECK.due("5 above", whole(5, 2147483647, -2147483648), 0);
        PipeComputer x = Check.startedWith(Check.row(1, 1, 0, 0, 2147483647), Check.row(1, 1, 1, 0, 2),
                Check.row(1, 0, 1, 0, 5), Check.row(2, 2, 0, 1, 0));
        x.run(4);
        CHECK.due("1 wraps", x.whole(1), -2147483647);
        CHECK.due("R0 stays 0", x.whole(0), 0);
        CHECK.due("R0 is read as 0", x.whole(2), -2147483647);
    }

    /** CELLS 0 and 1 hold a and b; the outcome of the op is in F2 or R2. */
    private static PipeComputer fraction(int op, double a, double b) {
        PipeComputer x = Check.startedWith(
                Check.row(8, 0, 0, 0, 0), Check.row(8, 1, 0, 0, 1), Check.row(op, 2, 0, 1, 0));
        x.cell(0, a);
        x.cell(1, b);
        x.run(3);
        return x;
    }

    private static void fractions() {
        CHECK.dueFraction("10", fraction(10, 1.5, -0.25).fraction(2), 1.25);
        CHECK.dueFraction("11", fraction(11, 1.5, -0.25).fraction(2), 1.75);
        CHECK.dueFraction("12", fraction(12, 1.5, -0.25).fraction(2), -0.375);
        CHECK.dueFraction("13", fraction(13, 1.5, -0.25).fraction(2), -6.0);
        CHECK.dueFraction("13, not rounded", fraction(13, 1.0, 3.0).fraction(2), 1.0 / 3.0);
        CHECK.due("14 below", fraction(14, -0.5, -0.25).whole(2), 1);
        CHECK.due("14 equal", fraction(14, 0.5, 0.5).whole(2), 0);
        CHECK.due("14 above", fraction(14, 0.5, 0.25).whole(2), 0);
        CHECK.due("16 up to 0", fraction(16, -7.9, 0.0).whole(2), -7);
        CHECK.due("16 down to 0", fraction(16, 7.9, 0.0).whole(2), 7);
        PipeComputer x = Check.startedWith(Check.row(1, 1, 0, 0, -2147483648), Check.row(15, 3, 1, 0, 0),
                Check.row(16, 4, 3, 0, 0), Check.row(16, 0, 3, 0, 0), Check.row(14, 0, 3, 0, 0));
        x.run(5);
        CHECK.dueFraction("15", x.fraction(3), -2147483648.0);
        CHECK.due("16", x.whole(4), -2147483648);
        CHECK.due("16 and 14 in R0", x.whole(0), 0);
    }

    private static void fractionsModuloFour() {
        PipeComputer x = Check.startedWith(Check.row(1, 7, 0, 0, 12), Check.row(15, 7, 7, 0, 0),
                Check.row(10, 4, 7, 3, 0), Check.row(11, 5, 4, 7, 0), Check.row(9, 0, 0, 6, 3),
                Check.row(9, 0, 0, 4, 4), Check.row(8, 6, 0, 0, 4), Check.row(14, 1, 7, 6, 0),
                Check.row(16, 2, 6, 0, 0));
        x.cell(3, 5.0);
        x.run(9);
        CHECK.dueFraction("F3", x.fraction(3), 12.0);
        CHECK.dueFraction("F0", x.fraction(0), 24.0);
        CHECK.dueFraction("F1", x.fraction(1), 12.0);
        CHECK.dueFraction("F2", x.fraction(2), 24.0);
        CHECK.dueFraction("CELL 3", x.memory(3), 0.0);
        CHECK.dueFraction("CELL 4", x.memory(4), 24.0);
        CHECK.due("R1", x.whole(1), 1);
        CHECK.due("R2", x.whole(2), 24);
        CHECK.due("F3 is READY", x.count(23), 8);
    }

    private static void loadsAndStores() {
        PipeComputer x = Check.startedWith(Check.row(1, 5, 0, 0, 40), Check.row(6, 1, 5, 0, 7),
                Check.row(8, 1, 5, 0, 7), Check.row(7, 0, 5, 1, -40), Check.row(9, 0, 5, 1, -39),
                Check.row(6, 0, 5, 0, 7), Check.row(7, 0, 5, 0, 6));
        x.cell(47, -8.75);
        x.cell(46, 3.0);
        x.run(7);
        CHECK.due("6 casts", x.whole(1), -8);
        CHECK.dueFraction("8 does not", x.fraction(1), -8.75);
        CHECK.dueFraction("7", x.memory(0), -8.0);
        CHECK.dueFraction("9", x.memory(1), -8.75);
        CHECK.due("6 in R0", x.whole(0), 0);
        CHECK.dueFraction("7 of R0", x.memory(46), 0.0);
    }

    private static int follows(int op, int a, int b, int n) {
        PipeComputer x = Check.startedWith(
                Check.row(1, 1, 0, 0, a), Check.row(1, 2, 0, 0, b), Check.row(op, 0, 1, 2, n));
        x.run(3);
        return x.count(0);
    }

    private static void jumps() {
        CHECK.due("17 equal", follows(17, 4, 4, 9), 9);
        CHECK.due("17 not", follows(17, 4, 5, 9), 3);
        CHECK.due("18 equal", follows(18, 4, 4, 9), 3);
        CHECK.due("18 not", follows(18, 4, 5, 9), 9);
        CHECK.due("19", follows(19, 4, 5, 9), 9);
        CHECK.due("19 equal", follows(19, 4, 4, 9), 9);
        CHECK.due("target 24", follows(19, 0, 0, 24), 0);
        CHECK.due("target -1", follows(19, 0, 0, -1), 23);
        CHECK.due("target -24", follows(19, 0, 0, -24), 0);
        CHECK.due("target least", follows(19, 0, 0, -2147483648), 16);
        CHECK.due("target greatest", follows(19, 0, 0, 2147483647), 7);
        PipeComputer x = new PipeComputer();
        x.code(23, 17, 0, 0, 1, 23);
        x.code(22, 1, 1, 0, 0, 1);
        x.start(22);
        x.run(2);
        CHECK.due("0 follows 23", x.count(0), 0);
    }

    private static void addresses() {
        int[] ops = {6, 7, 8, 9};
        for (int op : ops) {
            PipeComputer low = Check.startedWith(Check.row(1, 1, 0, 0, 1), Check.row(op, 2, 1, 3, -2));
            CHECK.dueThrow(op + " at -1", IndexOutOfBoundsException.class, () -> low.run(2));
            CHECK.dueCounts(op + " at -1", low, 1, 1, 1, 4, 1, 0, 0);
            PipeComputer high = Check.startedWith(Check.row(1, 1, 0, 0, 1), Check.row(op, 2, 1, 3, 47));
            CHECK.dueThrow(op + " at 48", IndexOutOfBoundsException.class, () -> high.run(2));
            PipeComputer wraps = Check.startedWith(Check.row(1, 1, 0, 0, 2147483647),
                    Check.row(op, 2, 1, 3, 2147483647), Check.row(1, 1, 0, 0, -2147483648),
                    Check.row(op, 2, 1, 3, -2147483648), Check.row(op, 2, 1, 3, 2147483647));
            CHECK.dueThrow(op + " at -2", IndexOutOfBoundsException.class, () -> wraps.run(2));
            wraps.start(2);
            CHECK.due(op + " at 0 by wrapping", wraps.run(2), 2);
            CHECK.dueThrow(op + " at -1", IndexOutOfBoundsException.class, () -> wraps.run(2));
            PipeComputer edge = Check.startedWith(Check.row(op, 2, 0, 3, 0), Check.row(op, 2, 0, 3, 47));
            CHECK.due(op + " at 0 and 47", edge.run(3), 3);
        }
    }

    private static void divisionByZero() {
        CHECK.dueThrow("1.0 / 0.0", ArithmeticException.class, () -> fraction(13, 1.0, 0.0));
        CHECK.dueThrow("0.0 / 0.0", ArithmeticException.class, () -> fraction(13, 0.0, 0.0));
        CHECK.dueThrow("0.0 / -0.0", ArithmeticException.class, () -> fraction(13, 0.0, -0.0));
        CHECK.dueFraction("0.0 / 2.0", fraction(13, 0.0, 2.0).fraction(2), 0.0);
        CHECK.dueFraction("5.0 + 0.0", fraction(10, 5.0, 0.0).fraction(2), 5.0);
        CHECK.dueFraction("5.0 - 0.0", fraction(11, 5.0, 0.0).fraction(2), 5.0);
        CHECK.dueFraction("5.0 * 0.0", fraction(12, 5.0, 0.0).fraction(2), 0.0);
    }

    private static void outcomes() {
        CHECK.dueFraction("12 at the limit", fraction(12, 1000000.0, 1000.0).fraction(2), 1000000000.0);
        CHECK.dueFraction("12 at the low limit", fraction(12, -1000000.0, 1000.0).fraction(2), -1000000000.0);
        CHECK.dueThrow("12 above", ArithmeticException.class, () -> fraction(12, 1000000.0, 1000.001));
        CHECK.dueThrow("12 below", ArithmeticException.class, () -> fraction(12, -1000000.0, 1000.001));
        CHECK.dueFraction("13 at the limit", fraction(13, 1000000.0, 0.001).fraction(2), 1000000000.0);
        CHECK.dueThrow("13 above", ArithmeticException.class, () -> fraction(13, 1000000.0, 0.0009));
        CHECK.dueThrow("13 below", ArithmeticException.class, () -> fraction(13, -1000000.0, 0.0009));
        CHECK.dueThrow("13 endless", ArithmeticException.class, () -> fraction(13, 1.0, Double.MIN_VALUE));
        int limit = 1000000000;
        CHECK.dueFraction("10 at the limit", ofWholes(10, limit - 1, 1), 1000000000.0);
        CHECK.dueThrow("10 above", ArithmeticException.class, () -> ofWholes(10, limit, 1));
        CHECK.dueThrow("10 below", ArithmeticException.class, () -> ofWholes(10, -limit, -1));
        CHECK.dueFraction("11 at the limit", ofWholes(11, 1 - limit, 1), -1000000000.0);
        CHECK.dueThrow("11 above", ArithmeticException.class, () -> ofWholes(11, limit, -1));
        CHECK.dueThrow("11 below", ArithmeticException.class, () -> ofWholes(11, -limit, 1));
        CHECK.dueFraction("10 of one above", ofWholes(10, 2147483647, -2147483647), 0.0);
        CHECK.dueFraction("13 of one above", ofWholes(13, 2000000000, 2), 1000000000.0);
    }

    /** F0 and F1 hold a and b, the outcome is in F2. */
    private static double ofWholes(int op, int a, int b) {
        PipeComputer x = Check.startedWith(Check.row(1, 1, 0, 0, a), Check.row(1, 2, 0, 0, b),
                Check.row(15, 0, 1, 0, 0), Check.row(15, 1, 2, 0, 0), Check.row(op, 2, 0, 1, 0));
        x.run(5);
        return x.fraction(2);
    }

    private static void whatThrowingLeaves() {
        PipeComputer x = Check.startedWith(Check.row(1, 1, 0, 0, 7), Check.row(15, 1, 1, 0, 0),
                Check.row(9, 0, 0, 1, 8), Check.row(19, 0, 0, 0, 6));
        Check.put(x, 6, Check.row(13, 1, 1, 0, 0), Check.row(13, 1, 1, 0, 0));
        CHECK.dueThrow("run(300)", ArithmeticException.class, () -> x.run(300));
        CHECK.dueCounts("what was done before stays", x, 6, 1, 4, 9, 2, 1, 0);
        CHECK.dueFraction("F1 stays", x.fraction(1), 7.0);
        CHECK.due("F1 is READY as before", x.count(21), 8);
        CHECK.dueFraction("CELL 8", x.memory(8), 7.0);
        CHECK.dueThrow("run(1)", IllegalStateException.class, () -> x.run(1));
        PipeComputer z = Check.startedWith(Check.row(1, 1, 0, 0, 1000000000), Check.row(15, 1, 1, 0, 0),
                Check.row(10, 2, 1, 1, 0));
        CHECK.dueThrow("run(300)", ArithmeticException.class, () -> z.run(300));
        CHECK.dueCounts("an outcome too great stops it", z, 2, 1, 2, 5, 1, 0, 0);
        CHECK.dueFraction("F2 stays", z.fraction(2), 0.0);
        PipeComputer y = Check.startedWith(Check.row(6, 1, 0, 0, 48));
        CHECK.dueThrow("run(1)", IndexOutOfBoundsException.class, () -> y.run(1));
        CHECK.dueCounts("the first throws", y, 0, 1, 0, -1, 1, 0, 0);
        CHECK.due("R1 is READY", y.count(11), 0);
    }
}
