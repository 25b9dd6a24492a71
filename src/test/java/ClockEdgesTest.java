/** The clock, the caches and the predictor (promises 5 and 11): a test for each sentence with an edge. */
final class ClockEdgesTest {
    private static final Check CHECK = new Check();
    private static final int[] NOTHING = Check.row(1, 0, 0, 0, 0);

    public static void main(String[] args) {
        firstSinceStart();
        groupsEndAtFour();
        groupsShareTwoPlaces();
        wrongJumpDelaysTheNextAlone();
        wrongJumpThatStays();
        wrongJumpAndOtherWaits();
        readersWaitToTheMoment();
        theLaterOfTwoCounts();
        haltAndJumpWaitForNothing();
        dividerIsFreeEightLater();
        dividerIsWaitedForByDivisionAlone();
        memoryIsFreeOneLater();
        memoryIsWaitedForByLoadsAndStoresAlone();
        laterWritesAreReadyLater();
        laterWritesOfFractions();
        registerZeroIsAlwaysReady();
        linesEndAtFour();
        setsAreTwo();
        setsHoldTwo();
        countersAreEight();
        countersStayWithinZeroAndThree();
        missIsLatencyToo();
        throwingIsNotDone();
        throwingAsksForTheGroup();
        allIsNewAtStart();
        CHECK.end();
    }

    /** "the time of the one before (-1 for the first since start) + 1, + 4 if its GROUP isn't in". */
    private static void firstSinceStart() {
        PipeComputer x = new PipeComputer();
        for (int time = 0; time < 2; time++) {
            for (int i = 0; i < 24; i++) {
                x.start(i);
                CHECK.dueTimes("first, from " + i, x, 4);
            }
        }
    }

    /** "GROUP g, of INSTRUCTIONS 4 g to 4 g + 3". */
    private static void groupsEndAtFour() {
        PipeComputer x = new PipeComputer();
        for (int i = 0; i < 24; i++) {
            x.code(i, 1, 0, 0, 0, 0);
        }
        for (int i = 0; i < 24; i++) {
            x.start(i);
            boolean ends = i % 4 == 3;
            CHECK.dueTimes("from " + i, x, 4, ends ? 9 : 5);
            CHECK.due("from " + i + ": groups not found", x.count(4), ends ? 2 : 1);
        }
    }

    /** "2 places; GROUP g .. is in place g modulo 2, taking the place of what is there." */
    private static void groupsShareTwoPlaces() {
        for (int g = 0; g < 6; g++) {
            for (int h = 0; h < 6; h++) {
                if (g == h) {
                    continue;
                }
                PipeComputer x = new PipeComputer();
                x.code(4 * g, 19, 0, 0, 0, 4 * h);
                x.code(4 * h, 19, 0, 0, 0, 4 * g + 3);
                x.start(4 * g);
                boolean gone = g % 2 == h % 2;
                CHECK.dueTimes("groups " + g + ", " + h + ", " + g, x, 4, 9, gone ? 14 : 10);
                CHECK.due("groups " + g + ", " + h + ": not found", x.count(4), gone ? 3 : 2);
            }
        }
    }

    /** "+ 2 if the one before was a 17 or 18 that was predicted wrongly". */
    private static void wrongJumpDelaysTheNextAlone() {
        PipeComputer x = Check.startedWith(Check.row(17, 0, 0, 0, 2), NOTHING, NOTHING);
        CHECK.dueTimes("17 that jumps", x, 4, 7, 8);
        CHECK.due("17 that jumps: wrong", x.count(6), 1);
        PipeComputer y = Check.startedWith(Check.row(1, 1, 0, 0, 1), Check.row(18, 0, 1, 0, 3), NOTHING, NOTHING);
        CHECK.dueTimes("18 that jumps", y, 4, 5, 8);
        CHECK.due("18 that jumps: wrong", y.count(6), 1);
        PipeComputer z = Check.startedWith(Check.row(18, 0, 0, 0, 2), Check.row(17, 0, 0, 0, 2), NOTHING);
        CHECK.dueTimes("18 that doesn't, 17 that does", z, 4, 5, 8, 9);
        PipeComputer w = Check.startedWith(Check.row(17, 0, 0, 0, 1), Check.row(18, 0, 0, 0, 9), NOTHING);
        CHECK.dueTimes("17 that jumps to the next, 18 that doesn't", w, 4, 7, 8);
        CHECK.due("17 that jumps to the next: wrong", w.count(6), 1);
        PipeComputer v = Check.startedWith(Check.row(19, 0, 0, 0, 2), NOTHING, Check.row(19, 0, 0, 0, 0));
        CHECK.dueTimes("19 is never predicted", v, 4, 5, 6, 7, 8);
        CHECK.due("19 is never predicted: wrong", v.count(6), 0);
    }

    /** "it's predicted to jump at 2 and 3": staying is wrong then, and comes late too. */
    private static void wrongJumpThatStays() {
        PipeComputer x = Check.startedWith(Check.row(17, 0, 0, 0, 0));
        CHECK.dueTimes("17 that jumps twice", x, 4, 7);
        x.code(0, 18, 0, 0, 0, 5);
        CHECK.dueTimes("18 that stays", x, 8, 11);
        CHECK.dueCounts("18 that stays", x, 1, 1, 4, 11, 1, 0, 2);
    }

    /** "the latest of": the waits are not added to one another, those of (1) are. */
    private static void wrongJumpAndOtherWaits() {
        PipeComputer x = Check.startedWith(Check.row(6, 1, 0, 0, 0), Check.row(17, 0, 0, 0, 2), Check.row(1, 2, 1, 0, 0));
        CHECK.dueTimes("a register is READY later", x, 4, 5, 11);
        PipeComputer y = Check.startedWith(Check.row(15, 1, 0, 0, 0), Check.row(17, 0, 0, 0, 2), Check.row(16, 2, 1, 0, 0));
        CHECK.dueTimes("a register is READY sooner", y, 4, 5, 8);
        PipeComputer z = Check.startedWith(Check.row(17, 0, 0, 0, 4));
        CHECK.dueTimes("a GROUP that isn't in", z, 4, 11);
        PipeComputer w = Check.startedWith(Check.row(6, 1, 0, 0, 0), NOTHING, Check.row(17, 0, 0, 0, 4));
        w.code(4, 1, 2, 1, 0, 0);
        CHECK.dueTimes("a GROUP that isn't in and a register", w, 4, 5, 6, 13);
    }

    /** "when each register that it reads is READY"; "READY LATENCY after it BEGINS". */
    private static void readersWaitToTheMoment() {
        int[] ops = {1, 2, 3, 4, 5, 10, 11, 12, 14, 15, 16};
        int[] latency = {1, 1, 1, 1, 1, 3, 3, 4, 3, 3, 3};
        for (int k = 0; k < ops.length; k++) {
            boolean fraction = ops[k] >= 10 && ops[k] <= 12 || ops[k] == 15;
            int[] reads = Check.row(fraction ? 16 : 1, 2, 1, 0, 0);
            PipeComputer x = Check.startedWith(Check.row(ops[k], 1, 0, 0, 0), reads);
            CHECK.dueTimes(ops[k] + " and its reader", x, 4, 4 + latency[k]);
            PipeComputer y = Check.startedWith(Check.row(ops[k], 1, 0, 0, 0), NOTHING, reads);
            CHECK.dueTimes(ops[k] + ", one, and its reader", y, 4, 5, Math.max(6, 4 + latency[k]));
        }
        for (int op : new int[] {6, 8}) {
            int[] reads = Check.row(op == 6 ? 1 : 16, 2, 1, 0, 0);
            PipeComputer x = Check.startedWith(Check.row(op, 1, 0, 0, 47), reads, Check.row(op, 1, 0, 0, 44), reads);
            CHECK.dueTimes(op + " with a MISS and without", x, 4, 11, 12, 14);
        }
        PipeComputer x = Check.startedWith(Check.row(1, 1, 0, 0, 1), Check.row(15, 0, 1, 0, 0),
                Check.row(13, 1, 0, 0, 0), Check.row(16, 2, 1, 0, 0));
        CHECK.dueTimes("13 and its reader", x, 4, 5, 8, 16);
    }

    /** "when each register that it reads is READY". */
    private static void theLaterOfTwoCounts() {
        int[] sooner = Check.row(14, 1, 0, 0, 0);
        int[] later = Check.row(6, 2, 0, 0, 0);
        for (int a = 1; a <= 2; a++) {
            PipeComputer x = Check.startedWith(sooner, later, Check.row(2, 3, a, 3 - a, 0));
            CHECK.dueTimes("R" + a + " + R" + (3 - a), x, 4, 5, 12);
        }
    }

    /** "each register that it reads": a HALT and a 19 read none, whatever their d, a and b. */
    private static void haltAndJumpWaitForNothing() {
        PipeComputer x = Check.startedWith(Check.row(6, 1, 0, 0, 0), Check.row(19, 1, 1, 1, 2), Check.row(0, 1, 1, 1, 1));
        CHECK.dueTimes("19 and HALT", x, 4, 5, 6);
        CHECK.due("R1 is READY", x.count(11), 11);
    }

    private static PipeComputer withF0(int[]... rows) {
        PipeComputer x = Check.startedWith(Check.row(1, 1, 0, 0, 1), Check.row(15, 0, 1, 0, 0));
        Check.put(x, 2, rows);
        return x;
    }

    /** "for 13: when the DIVIDER is free"; "the DIVIDER free 8" after it BEGINS. */
    private static void dividerIsFreeEightLater() {
        int[] divides = Check.row(13, 1, 0, 0, 0);
        PipeComputer x = withF0(divides, Check.row(13, 2, 0, 0, 0), Check.row(13, 3, 0, 0, 0));
        CHECK.dueTimes("13 three times", x, 4, 5, 8, 16, 24);
        PipeComputer y = withF0(divides, Check.row(14, 2, 0, 0, 0), NOTHING, NOTHING, NOTHING, NOTHING,
                Check.row(13, 3, 0, 0, 0));
        CHECK.dueTimes("13 when it is long free", y, 4, 5, 8, 9, 14, 15, 16, 17, 22);
    }

    /** "for 13: when the DIVIDER is free": for no other. */
    private static void dividerIsWaitedForByDivisionAlone() {
        for (int op : new int[] {0, 1, 2, 3, 4, 5, 6, 7, 8, 9, 10, 11, 12, 14, 15, 16, 17, 18, 19}) {
            PipeComputer x = withF0(Check.row(13, 1, 0, 0, 0), Check.row(op, 2, 0, 0, 0));
            CHECK.dueTimes("13 and " + op, x, 4, 5, 8, 9);
        }
    }

    /** "MEMORY 1, and 5 more for a MISS (loads and stores)". */
    private static void memoryIsFreeOneLater() {
        for (int first = 6; first <= 9; first++) {
            for (int second = 6; second <= 9; second++) {
                PipeComputer x = Check.startedWith(Check.row(first, 1, 0, 0, 0), Check.row(second, 2, 0, 0, 3),
                        Check.row(first, 3, 0, 0, 4), Check.row(second, 0, 0, 0, 1));
                // The second is found, so memory is free at once; the third isn't.
                CHECK.dueTimes(first + " and " + second, x, 4, 10, 11, 17);
                CHECK.due(first + " and " + second + ": lines not found", x.count(5), 2);
            }
        }
    }

    /** "for 6 to 9: when MEMORY is free": for no other. */
    private static void memoryIsWaitedForByLoadsAndStoresAlone() {
        for (int op : new int[] {0, 1, 2, 3, 4, 5, 10, 11, 12, 14, 15, 16, 17, 18, 19}) {
            PipeComputer x = Check.startedWith(Check.row(7, 0, 0, 0, 0), Check.row(op, 2, 0, 0, 0));
            CHECK.dueTimes("7 and " + op, x, 4, 5);
        }
        PipeComputer x = withF0(Check.row(7, 0, 0, 0, 0), Check.row(13, 2, 0, 0, 0));
        CHECK.dueTimes("7 and 13", x, 4, 5, 6, 8);
    }

    /** "if it writes a register: when that is READY, less its LATENCY, plus 1." */
    private static void laterWritesAreReadyLater() {
        int[] load = Check.row(6, 1, 0, 0, 0);
        int[][] next = {Check.row(1, 1, 0, 0, 0), Check.row(5, 1, 0, 0, 0), Check.row(14, 1, 0, 0, 0),
            Check.row(16, 1, 0, 0, 0), Check.row(6, 1, 0, 0, 3), Check.row(6, 1, 0, 0, 4), Check.row(6, 2, 0, 0, 3),
            Check.row(1, 2, 0, 0, 0)};
        int[] begins = {11, 11, 9, 9, 10, 10, 10, 5};
        int[] ready = {12, 12, 12, 12, 12, 17, 11, 11};
        for (int k = 0; k < next.length; k++) {
            PipeComputer x = Check.startedWith(load, next[k]);
            CHECK.dueTimes("6 and write " + k, x, 4, begins[k]);
            CHECK.due("6 and write " + k + ": R1 is READY", x.count(11), ready[k]);
        }
    }

    /** The same sentence, for an F. */
    private static void laterWritesOfFractions() {
        int[] divides = Check.row(13, 1, 0, 0, 0);
        int[][] next = {Check.row(8, 1, 0, 0, 0), Check.row(15, 5, 0, 0, 0), Check.row(10, 1, 0, 0, 0),
            Check.row(11, 1, 0, 0, 0), Check.row(12, 1, 0, 0, 0), Check.row(13, 1, 0, 0, 0), Check.row(15, 2, 0, 0, 0),
            Check.row(14, 1, 0, 0, 0)};
        int[] begins = {10, 14, 14, 14, 13, 16, 9, 9};
        int[] ready = {17, 17, 17, 17, 17, 24, 16, 16};
        for (int k = 0; k < next.length; k++) {
            PipeComputer x = withF0(divides, next[k]);
            CHECK.dueTimes("13 and write " + k, x, 4, 5, 8, begins[k]);
            CHECK.due("13 and write " + k + ": F1 is READY", x.count(21), ready[k]);
        }
    }

    /** "(R0 is always READY)": who reads or writes it waits for none that wrote it. */
    private static void registerZeroIsAlwaysReady() {
        for (int op : new int[] {1, 2, 3, 4, 5, 6, 14, 16}) {
            PipeComputer x = Check.startedWith(Check.row(op, 0, 0, 0, 0), Check.row(2, 1, 0, 0, 0), NOTHING);
            CHECK.dueTimes(op + " into R0", x, 4, 5, 6);
            CHECK.due(op + " into R0: count(10)", x.count(10), 0);
            CHECK.due(op + " into R0: count(11)", x.count(11), 6);
        }
    }

    /** Does a load or store of each cell; answers which of them were not found. */
    private static String missing(int... cells) {
        PipeComputer x = new PipeComputer();
        StringBuilder text = new StringBuilder();
        for (int k = 0; k < cells.length; k++) {
            x.code(k, 6 + k % 4, 1, 0, 1, cells[k]);
        }
        x.start(0);
        for (int k = 0; k < cells.length; k++) {
            int before = x.count(5);
            x.run(1);
            text.append(x.count(5) - before);
        }
        return text.toString();
    }

    private static void dueMissing(String what, String want, int... cells) {
        String got = missing(cells);
        if (!got.equals(want)) {
            CHECK.tell(what + ": not found were " + got + ", due is " + want);
        }
    }

    /** "LINE l, of CELLS 4 l to 4 l + 3". */
    private static void linesEndAtFour() {
        for (int i = 0; i + 1 < 48; i++) {
            dueMissing("cells " + i + " and " + (i + 1), i % 4 == 3 ? "11" : "10", i, i + 1);
            dueMissing("cells " + (i + 1) + " and " + i, i % 4 == 3 ? "11" : "10", i + 1, i);
        }
    }

    /** "2 sets of 2 places; LINE l .. is in set l modulo 2". */
    private static void setsAreTwo() {
        for (int l = 0; l < 9; l++) {
            int c = 4 * l;
            dueMissing("four lines from " + l, "111100001", c, c + 4, c + 8, c + 12, c, c + 5, c + 10, c + 15,
                    (c + 16) % 48);
            // Full of one kind leaves the other kind's places free.
            dueMissing("by turns from " + l, "1101000", c, c + 8, c + 1, c + 4, c + 2, c + 9, c + 7);
        }
    }

    /** "a free place (place 0 first), else in place of the one that was used longer ago." */
    private static void setsHoldTwo() {
        for (int l = 0; l < 12; l++) {
            for (int m = l % 2; m < 12; m += 2) {
                for (int n = l % 2; n < 12; n += 2) {
                    if (l != m && m != n && n != l) {
                        dueOldestGoes(4 * l, 4 * m, 4 * n);
                    }
                }
            }
        }
    }

    private static void dueOldestGoes(int l, int m, int n) {
        String lines = "lines of " + l + ", " + m + ", " + n;
        dueMissing(lines + ": the first goes", "11101", l, m, n, m + 3, l);
        dueMissing(lines + ": a use keeps it", "11010", l, m, l + 1, n, l + 2);
        dueMissing(lines + ": the second goes", "11011", l, m, l + 1, n, m);
        dueMissing(lines + ": by last use, not by when it came", "1110111", l, m, n, m, l, n, m);
    }

    /** "8 counters .. a 17 or 18 uses number (its own number modulo 8)". */
    private static void countersAreEight() {
        for (int i = 0; i < 24; i++) {
            for (int j = 0; j < 24; j++) {
                if (i != j) {
                    PipeComputer x = new PipeComputer();
                    x.code(i, 17, 0, 0, 0, i);
                    x.code(j, 17, 0, 0, 0, j);
                    x.start(i);
                    x.run(2);
                    x.code(i, 19, 0, 0, 0, j);
                    x.run(2);
                    boolean shared = (i - j) % 8 == 0;
                    CHECK.due(j + " behind " + i + ": predicted wrongly", x.count(6), shared ? 1 : 2);
                }
            }
        }
    }

    /** "up by one if it jumped, else down (within 0 .. 3)", "1 at start". */
    private static void countersStayWithinZeroAndThree() {
        String[] jumps = {"1", "0", "11", "10", "01", "011", "0011", "000000011111", "111111100000", "1100", "110110110"};
        String[] wrong = {"1", "0", "10", "11", "01", "011", "0011", "000000011000", "100000011000", "1011", "101001001"};
        for (int op = 17; op <= 18; op++) {
            for (int k = 0; k < jumps.length; k++) {
                String got = wrongGuesses(op, jumps[k]);
                if (!got.equals(wrong[k])) {
                    CHECK.tell(op + " by " + jumps[k] + " was wrong at " + got + ", due is " + wrong[k]);
                }
            }
        }
    }

    private static String wrongGuesses(int op, String jumps) {
        PipeComputer x = Check.startedWith(NOTHING, Check.row(19, 0, 0, 0, 5));
        x.code(5, 1, 1, 0, 0, 1);
        x.code(7, 19, 0, 0, 0, 6);
        x.run(3);
        StringBuilder text = new StringBuilder();
        for (int k = 0; k < jumps.length(); k++) {
            boolean jumped = jumps.charAt(k) == '1';
            // R0 and R0 are equal, R0 and R1 are not.
            x.code(6, op, 0, 0, jumped == (op == 17) ? 0 : 1, 6);
            int before = x.count(6);
            x.run(jumped ? 1 : 2);
            text.append(x.count(6) - before);
        }
        return text.toString();
    }

    /** "6, 8: 2, and 5 more for a MISS": the same in what a later write waits. */
    private static void missIsLatencyToo() {
        PipeComputer x = withF0(Check.row(8, 2, 0, 0, 0), Check.row(13, 1, 0, 0, 0), NOTHING);
        // 13 begins at 8 and F1 is READY at 16; a MISS takes 7, a load that is found 2.
        x.code(4, 8, 1, 0, 0, 1);
        CHECK.dueTimes("found", x, 4, 5, 6, 8, 15);
        x.code(4, 8, 1, 0, 0, 4);
        x.start(0);
        CHECK.dueTimes("a MISS", x, 4, 5, 6, 8, 13);
        CHECK.due("a MISS: F1 is READY", x.count(21), 20);
    }

    /** "An INSTRUCTION that throws isn't done .. the computer STOPS there." */
    private static void throwingIsNotDone() {
        for (int op = 6; op <= 13; op++) {
            PipeComputer x = Check.startedWith(Check.row(1, 1, 0, 0, 2000000000), Check.row(15, 1, 1, 0, 0),
                    Check.row(17, 0, 0, 0, 4));
            // R1 and F1 are beyond all limits; F2 is 0.0, for 11 to leave F1 as it is and for 13.
            x.code(4, 1, 0, 0, 0, 0);
            x.code(5, op, 3, 1, op == 11 || op == 13 ? 2 : 1, 0);
            String call = op + " that throws";
            Class<? extends RuntimeException> want =
                    op <= 9 ? IndexOutOfBoundsException.class : ArithmeticException.class;
            CHECK.dueThrow(call, want, () -> x.run(300));
            CHECK.dueCounts(call, x, 5, 1, 4, 13, 2, 0, 1);
            CHECK.due(call + ": count(13)", x.count(13), 0);
            CHECK.due(call + ": count(23)", x.count(23), 0);
            CHECK.due(call + ": count(21)", x.count(21), 8);
            CHECK.due(call + ": whole(3)", x.whole(3), 0);
            CHECK.dueFraction(call + ": fraction(3)", x.fraction(3), 0.0);
            CHECK.dueThrow(call + ": run(1)", IllegalStateException.class, () -> x.run(1));
        }
    }

    /** "only the CACHES have been asked for its GROUP and LINE (an ADDRESS that isn't there for none)". */
    private static void throwingAsksForTheGroup() {
        for (int op = 6; op <= 13; op++) {
            Class<? extends RuntimeException> want =
                    op <= 9 ? IndexOutOfBoundsException.class : ArithmeticException.class;
            for (int place : new int[] {3, 4}) {
                PipeComputer x = Check.startedWith(Check.row(1, 1, 0, 0, 2000000000), Check.row(15, 1, 1, 0, 0),
                        Check.row(15, 2, 0, 0, 0), NOTHING);
                x.code(place, op, 3, 1, op == 11 || op == 13 ? 2 : 1, 0);
                String call = op + " at " + place;
                CHECK.dueThrow(call, want, () -> x.run(300));
                CHECK.due(call + ": groups not found", x.count(4), place == 3 ? 1 : 2);
                CHECK.due(call + ": lines not found", x.count(5), 0);
            }
        }
    }

    /** "All is READY and free at 0 at start", "Both are empty at start", "1 at start". */
    private static void allIsNewAtStart() {
        PipeComputer x = withF0(Check.row(13, 1, 0, 0, 0), Check.row(7, 0, 0, 1, 47), Check.row(6, 3, 0, 0, 47),
                Check.row(17, 0, 0, 0, 7), NOTHING, Check.row(17, 0, 3, 1, 3));
        for (int time = 0; time < 3; time++) {
            x.start(0);
            CHECK.dueTimes("time " + time, x, 4, 5, 8, 9, 15, 16, 19, 22);
            CHECK.dueCounts("time " + time, x, 4, 0, 8, 22, 2, 1, 2);
            CHECK.dueTimes("time " + time, x, 23);
        }
        x.start(2);
        CHECK.dueThrow("F0 is 0.0 again", ArithmeticException.class, () -> x.run(1));
        x.start(3);
        CHECK.dueTimes("the line is gone", x, 4, 10);
        CHECK.dueCounts("the line is gone", x, 5, 0, 2, 10, 2, 1, 0);
    }
}
