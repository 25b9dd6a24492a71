/** Promises 5 and 12 and the terms of registers, code and memory: a test for each sentence with an edge. */
final class OpEdgesTest {
    private static final Check CHECK = new Check();
    private static final int LEAST = Integer.MIN_VALUE;
    private static final int GREATEST = Integer.MAX_VALUE;
    private static final int LIMIT = 1000000000;

    public static void main(String[] args) {
        registerZeroStaysZero();
        fractionsAreNamedModuloFour();
        zeroFollowsTwentyThree();
        targetsAreModuloTwentyFour();
        addressesEnd();
        addressesWrap();
        wholesWrap();
        belowOfWholes();
        loadsCast();
        storesKeep();
        belowOfFractions();
        wholesToFractionsAndBack();
        jumpsByEquality();
        runTakesOneToThreeHundred();
        runRefusesNumbers();
        badComesFirst();
        haltIsDone();
        haltAtTheLimit();
        stoppedIsRefused();
        divisionByZero();
        zeroElsewhere();
        outcomesAtTheLimit();
        outcomesBeyondTheLimit();
        limitIsForOutcomesAlone();
        CHECK.end();
    }

    /** R1 and R2 hold a and b, F1 and F2 too; then comes one more. */
    private static PipeComputer holding(int a, int b, int[] last) {
        return Check.startedWith(Check.row(1, 1, 0, 0, a), Check.row(1, 2, 0, 0, b), Check.row(15, 1, 1, 0, 0),
                Check.row(15, 2, 2, 0, 0), last);
    }

    private static int whole(int op, int a, int b) {
        PipeComputer x = holding(a, b, Check.row(op, 3, 1, 2, 0));
        x.run(5);
        return x.whole(3);
    }

    private static double ofWholes(int op, int a, int b) {
        PipeComputer x = holding(a, b, Check.row(op, 3, 1, 2, 0));
        x.run(5);
        return x.fraction(3);
    }

    /** F1 and F2 hold v and w; then comes one more. */
    private static PipeComputer loaded(double v, double w, int[] last) {
        PipeComputer x = Check.startedWith(Check.row(8, 1, 0, 0, 0), Check.row(8, 2, 0, 0, 1), last);
        x.cell(0, v);
        x.cell(1, w);
        return x;
    }

    private static double fraction(int op, double v, double w) {
        PipeComputer x = loaded(v, w, Check.row(op, 3, 1, 2, 0));
        x.run(3);
        return x.fraction(3);
    }

    /** "R0 always 0 (what is put in it is gone)": by each op that writes an R. */
    private static void registerZeroStaysZero() {
        for (int op : new int[] {1, 2, 3, 4, 5, 6, 14, 16}) {
            PipeComputer x = holding(3, 8, Check.row(op, 0, 1, 2, 5));
            x.cell(8, 9.0);
            x.code(5, 2, 3, 0, 2, 0);
            x.code(6, 1, 4, 0, 0, 1);
            x.code(7, 7, 0, 0, 0, 20);
            x.cell(20, 4.0);
            x.run(8);
            CHECK.due(op + " into R0: whole(0)", x.whole(0), 0);
            CHECK.due(op + " into R0: R0 + R2", x.whole(3), 8);
            CHECK.due(op + " into R0: R0 + 1", x.whole(4), 1);
            CHECK.dueFraction(op + " into R0: R0 stored", x.memory(20), 0.0);
        }
    }

    /** "modulo 4 where they name an F": d, a and b of each op; an R is never modulo 4. */
    private static void fractionsAreNamedModuloFour() {
        for (int op : new int[] {10, 11, 12, 13}) {
            PipeComputer plain = holding(12, 3, Check.row(op, 3, 1, 2, 0));
            PipeComputer above = holding(12, 3, Check.row(op, 7, 5, 6, 0));
            plain.run(5);
            above.run(5);
            CHECK.dueFraction(op + " with 7, 5, 6", above.fraction(3), plain.fraction(3));
            CHECK.due(op + " with 7, 5, 6: F3 is READY", above.count(23), plain.count(23));
        }
        PipeComputer x = holding(12, 3, Check.row(14, 6, 6, 5, 0));
        x.code(5, 16, 7, 5, 0, 0);
        x.code(6, 15, 4, 7, 0, 0);
        x.code(7, 9, 0, 0, 4, 30);
        x.code(8, 8, 7, 0, 0, 30);
        x.run(9);
        CHECK.due("14 with 6, 6, 5: whole(6)", x.whole(6), 1);
        CHECK.due("14 with 6, 6, 5: whole(2)", x.whole(2), 3);
        CHECK.due("16 with 7, 5: whole(7)", x.whole(7), 12);
        CHECK.dueFraction("15 with 4, 7: fraction(0)", x.fraction(0), 12.0);
        CHECK.dueFraction("9 with 4: memory(30)", x.memory(30), 12.0);
        CHECK.dueFraction("8 with 7: fraction(3)", x.fraction(3), 12.0);
    }

    /** "INSTRUCTION 23 is followed by 0": behind each op that goes on, not behind a HALT or a throw. */
    private static void zeroFollowsTwentyThree() {
        for (int op = 1; op <= 18; op++) {
            PipeComputer x = new PipeComputer();
            // 17 doesn't jump as R0 is not R1, 18 as R1 is R1; F1 / F1 is no division by 0.0.
            x.code(20, 1, 1, 0, 0, 1);
            x.code(21, 15, 1, 1, 0, 0);
            x.code(22, 19, 0, 0, 0, 23);
            x.code(23, op, 2, 1, op == 17 ? 0 : 1, 5);
            x.start(20);
            CHECK.due(op + " at 23: run(4)", x.run(4), 4);
            CHECK.dueCounts(op + " at 23", x, 0, 0, 4);
        }
        PipeComputer x = new PipeComputer();
        x.start(23);
        x.run(2);
        CHECK.dueCounts("HALT at 23", x, 23, 1, 1);
        x.code(23, 6, 1, 0, 0, 48);
        x.start(23);
        CHECK.dueThrow("6 at 23", IndexOutOfBoundsException.class, () -> x.run(2));
        CHECK.dueCounts("a throw at 23", x, 23, 1, 0);
    }

    /** "TARGETS are n modulo 24, from 0 on." */
    private static void targetsAreModuloTwentyFour() {
        int[] n = {0, 1, 23, 24, 25, 47, 48, -1, -23, -24, -25, -48, GREATEST, GREATEST - 7, LEAST, LEAST + 8};
        int[] target = {0, 1, 23, 0, 1, 23, 0, 23, 1, 0, 23, 0, 7, 0, 16, 0};
        for (int k = 0; k < n.length; k++) {
            for (int op = 17; op <= 19; op++) {
                PipeComputer x = holding(4, op == 17 ? 4 : 5, Check.row(op, 0, 1, 2, n[k]));
                x.run(5);
                CHECK.due(op + " with n " + n[k], x.count(0), target[k]);
            }
        }
    }

    /** "not 0 .. 47: IndexOutOfBoundsException." */
    private static void addressesEnd() {
        for (int op = 6; op <= 9; op++) {
            for (int address : new int[] {-1, 48, -2, 49, LEAST, GREATEST}) {
                PipeComputer x = holding(4, 5, Check.row(op, 3, 0, 1, address));
                String call = op + " at " + address;
                CHECK.dueThrow(call, IndexOutOfBoundsException.class, () -> x.run(5));
                // The group of the one that throws has been asked for, its line has not.
                CHECK.dueCounts(call, x, 4, 1, 4, 7, 2, 0, 0);
                CHECK.due(call + ": whole(3)", x.whole(3), 0);
                CHECK.dueFraction(call + ": fraction(3)", x.fraction(3), 0.0);
                dueCellsEmpty(call, x);
            }
            for (int address : new int[] {0, 47}) {
                PipeComputer x = holding(4, 4, Check.row(op, 3, 0, 1, address));
                x.cell(address, 9.0);
                CHECK.due(op + " at " + address, x.run(5), 5);
                CHECK.due(op + " at " + address + ": whole(3)", x.whole(3), op == 6 ? 9 : 0);
                CHECK.dueFraction(op + " at " + address + ": fraction(3)", x.fraction(3), op == 8 ? 9.0 : 0.0);
                boolean stores = op == 7 || op == 9;
                CHECK.dueFraction(op + " at " + address + ": memory", x.memory(address), stores ? 4.0 : 9.0);
            }
        }
    }

    private static void dueCellsEmpty(String when, PipeComputer x) {
        for (int i = 0; i < 48; i++) {
            CHECK.dueFraction(when + ": memory(" + i + ")", x.memory(i), 0.0);
        }
    }

    /** "ADDRESSES are Ra + n (wrapping)." */
    private static void addressesWrap() {
        int[] ra = {GREATEST, LEAST, LEAST, -1, -48, 100, GREATEST, LEAST};
        int[] n = {LEAST + 1, LEAST, LEAST + 47, 1, 95, -53, GREATEST, -1};
        int[] address = {0, 0, 47, 0, 47, 47, -2, GREATEST};
        for (int k = 0; k < ra.length; k++) {
            int a = address[k];
            for (int op = 6; op <= 9; op++) {
                PipeComputer x = Check.startedWith(Check.row(1, 1, 0, 0, ra[k]), Check.row(1, 2, 0, 0, 7),
                        Check.row(15, 2, 2, 0, 0), Check.row(op, 3, 1, 2, n[k]));
                String call = op + " at " + ra[k] + " + " + n[k];
                if (a < 0 || a > 47) {
                    CHECK.dueThrow(call, IndexOutOfBoundsException.class, () -> x.run(4));
                } else {
                    x.cell(a, 3.0);
                    CHECK.due(call, x.run(4), 4);
                    CHECK.due(call + ": whole(3)", x.whole(3), op == 6 ? 3 : 0);
                    CHECK.dueFraction(call + ": fraction(3)", x.fraction(3), op == 8 ? 3.0 : 0.0);
                    CHECK.dueFraction(call + ": memory", x.memory(a), op == 7 || op == 9 ? 7.0 : 3.0);
                }
            }
        }
    }

    /** "(ints, wrapping)": 2, 3 and 4; 1 is of ints too. */
    private static void wholesWrap() {
        CHECK.due("greatest + 1", whole(2, GREATEST, 1), LEAST);
        CHECK.due("least + -1", whole(2, LEAST, -1), GREATEST);
        CHECK.due("least + least", whole(2, LEAST, LEAST), 0);
        CHECK.due("least - 1", whole(3, LEAST, 1), GREATEST);
        CHECK.due("greatest - -1", whole(3, GREATEST, -1), LEAST);
        CHECK.due("0 - least", whole(3, 0, LEAST), LEAST);
        CHECK.due("least * -1", whole(4, LEAST, -1), LEAST);
        CHECK.due("greatest * greatest", whole(4, GREATEST, GREATEST), 1);
        CHECK.due("65536 * 65536", whole(4, 65536, 65536), 0);
        CHECK.due("46341 * 46341", whole(4, 46341, 46341), -2147479015);
        PipeComputer x = holding(GREATEST, LEAST, Check.row(1, 3, 1, 0, 1));
        x.code(5, 1, 4, 2, 0, -1);
        x.code(6, 1, 5, 2, 0, LEAST);
        x.run(7);
        CHECK.due("1: greatest + 1", x.whole(3), LEAST);
        CHECK.due("1: least + -1", x.whole(4), GREATEST);
        CHECK.due("1: least + least", x.whole(5), 0);
    }

    /** "Rd = 1 if Ra is below Rb, else 0." */
    private static void belowOfWholes() {
        CHECK.due("3 below 4", whole(5, 3, 4), 1);
        CHECK.due("4 below 4", whole(5, 4, 4), 0);
        CHECK.due("5 below 4", whole(5, 5, 4), 0);
        CHECK.due("least below greatest", whole(5, LEAST, GREATEST), 1);
        CHECK.due("greatest below least", whole(5, GREATEST, LEAST), 0);
        CHECK.due("least below least", whole(5, LEAST, LEAST), 0);
        CHECK.due("-1 below 0", whole(5, -1, 0), 1);
    }

    /** "LOAD Rd, the CELL cast to int." */
    private static void loadsCast() {
        double[] cell = {0.9999, -0.9999, 1.0, -1.5, 999999.99, -1000000.0, -0.0, Double.MIN_VALUE};
        int[] want = {0, 0, 1, -1, 999999, -1000000, 0, 0};
        for (int k = 0; k < cell.length; k++) {
            PipeComputer x = Check.startedWith(Check.row(6, 7, 0, 0, 47));
            x.cell(47, cell[k]);
            x.run(1);
            CHECK.due("6 of " + cell[k], x.whole(7), want[k]);
        }
    }

    /** A store may put in more than cell(i, v) takes; the loads give it back. */
    private static void storesKeep() {
        for (int v : new int[] {LEAST, GREATEST, 1000001, -1000001}) {
            PipeComputer x = holding(v, 0, Check.row(7, 0, 0, 1, 3));
            x.code(5, 9, 0, 0, 1, 4);
            x.code(6, 6, 3, 0, 0, 4);
            x.code(7, 8, 3, 0, 0, 3);
            x.run(8);
            CHECK.dueFraction("7 of " + v, x.memory(3), v);
            CHECK.dueFraction("9 of " + v, x.memory(4), v);
            CHECK.due("6 of " + v, x.whole(3), v);
            CHECK.dueFraction("8 of " + v, x.fraction(3), v);
        }
        PipeComputer x = loaded(-0.1, 0.0, Check.row(9, 0, 0, 1, 47));
        x.run(3);
        CHECK.dueFraction("9 of -0.1", x.memory(47), -0.1);
    }

    /** "Rd = 1 if Fa is below Fb, else 0." */
    private static void belowOfFractions() {
        double[] v = {0.5, 0.5, Math.nextDown(0.5), Math.nextUp(0.5), -0.0, 0.0, -1.0};
        double[] w = {0.5, 0.75, 0.5, 0.5, 0.0, -0.0, 1.0};
        int[] want = {0, 1, 1, 0, 0, 0, 1};
        for (int k = 0; k < v.length; k++) {
            PipeComputer x = loaded(v[k], w[k], Check.row(14, 3, 1, 2, 0));
            x.run(3);
            CHECK.due(v[k] + " below " + w[k], x.whole(3), want[k]);
        }
    }

    /** "15 Fd = Ra. 16 Rd = Fa cast to int." */
    private static void wholesToFractionsAndBack() {
        for (int v : new int[] {LEAST, LEAST + 1, GREATEST, GREATEST - 1, 0, -1}) {
            PipeComputer x = holding(v, 0, Check.row(16, 3, 1, 0, 0));
            x.run(5);
            CHECK.dueFraction("15 of " + v, x.fraction(1), v);
            CHECK.due("16 of " + v, x.whole(3), v);
        }
        double[] fraction = {0.9999, -0.9999, 2.5, -2.5, -0.0};
        int[] want = {0, 0, 2, -2, 0};
        for (int k = 0; k < fraction.length; k++) {
            PipeComputer x = loaded(fraction[k], 0.0, Check.row(16, 3, 1, 0, 0));
            x.run(3);
            CHECK.due("16 of " + fraction[k], x.whole(3), want[k]);
        }
    }

    /** "17 if Ra equals Rb the TARGET follows, 18 if not, 19 the TARGET follows." */
    private static void jumpsByEquality() {
        int[] a = {0, LEAST, GREATEST, LEAST, 7};
        int[] b = {0, LEAST, LEAST, GREATEST, 8};
        for (int k = 0; k < a.length; k++) {
            boolean equal = k < 2;
            for (int op = 17; op <= 19; op++) {
                PipeComputer x = holding(a[k], b[k], Check.row(op, 0, 1, 2, 12));
                x.run(5);
                boolean jumps = op == 19 || equal == (op == 17);
                CHECK.due(op + " of " + a[k] + " and " + b[k], x.count(0), jumps ? 12 : 5);
            }
        }
    }

    /** "Does at most n INSTRUCTIONS (1 .. 300)." */
    private static void runTakesOneToThreeHundred() {
        for (int n : new int[] {1, 2, 299, 300}) {
            PipeComputer x = Check.startedWith(Check.row(1, 1, 1, 0, 1), Check.row(19, 0, 0, 0, 0));
            CHECK.due("run(" + n + ")", x.run(n), n);
            CHECK.dueCounts("run(" + n + ")", x, n % 2, 0, n, n + 3, 1, 0, 0);
            CHECK.due("run(" + n + "): whole(1)", x.whole(1), (n + 1) / 2);
        }
    }

    /** "Bad is .. a number out of range": "n INSTRUCTIONS (1 .. 300)". */
    private static void runRefusesNumbers() {
        PipeComputer x = Check.startedWith(Check.row(19, 0, 0, 0, 0));
        x.run(3);
        for (int n : new int[] {0, -1, 301, LEAST, GREATEST}) {
            CHECK.dueBad("run(" + n + ")", () -> x.run(n));
            CHECK.dueCounts("run(" + n + ")", x, 0, 0, 3, 6, 1, 0, 0);
        }
    }

    /** "it comes first": before IllegalStateException, and before what the code would throw. */
    private static void badComesFirst() {
        PipeComputer x = new PipeComputer();
        PipeComputer halted = Check.startedWith(Check.row(0, 0, 0, 0, 0));
        halted.run(1);
        PipeComputer thrown = Check.startedWith(Check.row(13, 0, 0, 0, 0));
        CHECK.dueThrow("13", ArithmeticException.class, () -> thrown.run(1));
        PipeComputer willThrow = Check.startedWith(Check.row(6, 0, 0, 0, 48));
        for (int n : new int[] {0, -1, 301, LEAST, GREATEST}) {
            CHECK.dueBad("new: run(" + n + ")", () -> x.run(n));
            CHECK.dueBad("halted: run(" + n + ")", () -> halted.run(n));
            CHECK.dueBad("thrown: run(" + n + ")", () -> thrown.run(n));
            CHECK.dueBad("would throw: run(" + n + ")", () -> willThrow.run(n));
        }
        CHECK.dueCounts("would throw", willThrow, 0, 0, 0, -1, 0, 0, 0);
        CHECK.dueThrow("would throw: run(1)", IndexOutOfBoundsException.class, () -> willThrow.run(1));
    }

    /** "until HALT (which is done, and STOPS it there)." */
    private static void haltIsDone() {
        PipeComputer x = Check.startedWith(Check.row(1, 1, 0, 0, 1));
        Check.put(x, 2, Check.row(1, 2, 0, 0, 1));
        CHECK.due("run(300)", x.run(300), 2);
        CHECK.dueCounts("halted", x, 1, 1, 2, 5, 1, 0, 0);
        CHECK.due("what is behind is not done", x.whole(2), 0);
        x.start(4);
        CHECK.due("HALT alone: run(300)", x.run(300), 1);
        CHECK.dueCounts("HALT alone", x, 4, 1, 1, 4, 1, 0, 0);
    }

    /** A HALT that is the 300th ends the run and STOPS it; one that is the 301st waits. */
    private static void haltAtTheLimit() {
        int[][] rows = {Check.row(1, 2, 0, 0, 149), Check.row(1, 1, 1, 0, 1), Check.row(18, 0, 1, 2, 1)};
        PipeComputer x = Check.startedWith(rows);
        CHECK.due("HALT is the 300th", x.run(300), 300);
        CHECK.dueCounts("HALT is the 300th", x, 3, 1, 300);
        PipeComputer y = Check.startedWith(rows[0], rows[1], rows[2], Check.row(1, 3, 0, 0, 1));
        CHECK.due("HALT is the 301st", y.run(300), 300);
        CHECK.dueCounts("HALT is the 301st", y, 4, 0, 300);
        CHECK.due("HALT is done next", y.run(1), 1);
        CHECK.dueCounts("HALT is done next", y, 4, 1, 301);
    }

    /** "It's STOPPED: IllegalStateException." */
    private static void stoppedIsRefused() {
        PipeComputer x = Check.startedWith(Check.row(1, 1, 0, 0, 1));
        x.run(2);
        for (int n : new int[] {1, 2, 300}) {
            CHECK.dueThrow("halted: run(" + n + ")", IllegalStateException.class, () -> x.run(n));
            CHECK.dueCounts("halted", x, 1, 1, 2, 5, 1, 0, 0);
        }
        x.code(1, 8, 0, 0, 0, -1);
        x.start(0);
        CHECK.dueThrow("8", IndexOutOfBoundsException.class, () -> x.run(2));
        for (int n : new int[] {1, 2, 300}) {
            CHECK.dueThrow("thrown: run(" + n + ")", IllegalStateException.class, () -> x.run(n));
            CHECK.dueCounts("thrown", x, 1, 1, 1, 4, 1, 0, 0);
        }
    }

    private static void dueArithmetic(String call, PipeComputer x, int before) {
        CHECK.dueThrow(call, ArithmeticException.class, () -> x.run(before + 1));
        CHECK.due(call + ": count(0)", x.count(0), before);
        CHECK.due(call + ": count(1)", x.count(1), 1);
        CHECK.due(call + ": count(2)", x.count(2), before);
        CHECK.due(call + ": count(23)", x.count(23), 0);
        CHECK.dueFraction(call + ": fraction(3)", x.fraction(3), 0.0);
    }

    /** "13 Fa / Fb: if Fb is 0.0 .. ArithmeticException." */
    private static void divisionByZero() {
        for (double v : new double[] {0.0, -0.0, 1.0, -1.0, 1000000.0, Double.MIN_VALUE}) {
            dueArithmetic(v + " / 0.0", loaded(v, 0.0, Check.row(13, 3, 1, 2, 0)), 2);
            dueArithmetic(v + " / -0.0", loaded(v, -0.0, Check.row(13, 3, 1, 2, 0)), 2);
        }
        CHECK.dueFraction("0.0 / least fraction", fraction(13, 0.0, Double.MIN_VALUE), 0.0);
        CHECK.dueFraction("least / least fraction", fraction(13, Double.MIN_VALUE, Double.MIN_VALUE), 1.0);
    }

    /** "Fb 0.0 is one for 13 alone." */
    private static void zeroElsewhere() {
        CHECK.dueFraction("5.5 + 0.0", fraction(10, 5.5, 0.0), 5.5);
        CHECK.dueFraction("5.5 - 0.0", fraction(11, 5.5, 0.0), 5.5);
        CHECK.dueFraction("5.5 * 0.0", fraction(12, 5.5, 0.0), 0.0);
        CHECK.dueFraction("0.0 / 5.5", fraction(13, 0.0, 5.5), 0.0);
        PipeComputer x = loaded(-5.5, 0.0, Check.row(14, 3, 1, 2, 0));
        CHECK.due("14 with Fb 0.0", x.run(3), 3);
        CHECK.due("-5.5 below 0.0", x.whole(3), 1);
    }

    /** "above 1000000000.0 or below -1000000000.0": the limits themselves are neither. */
    private static void outcomesAtTheLimit() {
        CHECK.dueFraction("10 at the limit", ofWholes(10, LIMIT - 5, 5), 1000000000.0);
        CHECK.dueFraction("10 at the low limit", ofWholes(10, -LIMIT + 5, -5), -1000000000.0);
        CHECK.dueFraction("11 at the limit", ofWholes(11, LIMIT - 5, -5), 1000000000.0);
        CHECK.dueFraction("11 at the low limit", ofWholes(11, -LIMIT + 5, 5), -1000000000.0);
        CHECK.dueFraction("12 at the limit", ofWholes(12, LIMIT / 8, 8), 1000000000.0);
        CHECK.dueFraction("12 at the low limit", ofWholes(12, LIMIT / 8, -8), -1000000000.0);
        CHECK.dueFraction("13 at the limit", ofWholes(13, -2 * LIMIT, -2), 1000000000.0);
        CHECK.dueFraction("13 at the low limit", ofWholes(13, 2 * LIMIT, -2), -1000000000.0);
    }

    /** "an outcome above 1000000000.0 or below -1000000000.0 of any of these four is an ArithmeticException". */
    private static void outcomesBeyondTheLimit() {
        int[][] pairs = {{10, LIMIT, 1}, {10, -LIMIT, -1}, {11, LIMIT, -1}, {11, -LIMIT, 1}, {12, LIMIT / 8 + 1, 8},
            {12, LIMIT / 8 + 1, -8}, {13, 2 * LIMIT + 1, 2}, {13, -2 * LIMIT - 1, 2}, {10, GREATEST, GREATEST},
            {11, LEAST, GREATEST}, {12, LEAST, LEAST}, {12, LEAST, GREATEST}, {13, LEAST, -1}, {13, LEAST, 1}};
        for (int[] p : pairs) {
            dueArithmetic(p[1] + " " + p[0] + " " + p[2], holding(p[1], p[2], Check.row(p[0], 3, 1, 2, 0)), 4);
        }
        // A fraction of about a ten-millionth is the least step beyond the limit.
        double step = 1.2e-7;
        for (int[] p : new int[][] {{10, LIMIT, 1}, {10, -LIMIT, -1}, {11, LIMIT, -1}, {11, -LIMIT, 1}}) {
            PipeComputer x = Check.startedWith(Check.row(1, 1, 0, 0, p[1]), Check.row(15, 1, 1, 0, 0),
                    Check.row(8, 2, 0, 0, 0), Check.row(p[0], 3, 1, 2, 0));
            x.cell(0, p[2] * step);
            dueArithmetic(p[1] + " " + p[0] + " " + p[2] * step, x, 3);
        }
        for (double v : new double[] {1.0, -1.0}) {
            dueArithmetic(v + " / least", loaded(v, Double.MIN_VALUE, Check.row(13, 3, 1, 2, 0)), 2);
            dueArithmetic(v + " / -least", loaded(v, -Double.MIN_VALUE, Check.row(13, 3, 1, 2, 0)), 2);
        }
    }

    /** What is read may be beyond the limit, and 14 to 16 and the loads and stores know none. */
    private static void limitIsForOutcomesAlone() {
        CHECK.dueFraction("greatest - greatest", ofWholes(11, GREATEST, GREATEST), 0.0);
        CHECK.dueFraction("greatest / 3", ofWholes(13, GREATEST, 3), GREATEST / 3.0);
        CHECK.dueFraction("least * 0", ofWholes(12, LEAST, 0), -0.0);
        PipeComputer x = holding(GREATEST, LEAST, Check.row(14, 3, 2, 1, 0));
        x.code(5, 9, 0, 0, 1, 0);
        x.code(6, 8, 3, 0, 0, 0);
        x.code(7, 16, 4, 3, 0, 0);
        CHECK.due("14, 9, 8, 16 beyond the limit", x.run(8), 8);
        CHECK.due("least below greatest", x.whole(3), 1);
        CHECK.due("there and back", x.whole(4), GREATEST);
    }
}
