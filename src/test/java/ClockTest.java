/** Promises 5 and 11: when each instruction begins, by units, caches and the predictor. */
final class ClockTest {
    private static final Check CHECK = new Check();

    public static void main(String[] args) {
        groups();
        groupsTakeTurns();
        latencies();
        readsOfEveryOp();
        readsOfDivision();
        whatWritesNothing();
        divider();
        writesStayInOrder();
        memoryUnit();
        nothingWaitsForNothing();
        linesTakeTurns();
        linesBySet();
        predictor();
        predictorShares();
        predictorLearns();
        aLatenessForGroupAndJump();
        CHECK.end();
    }

    private static void groups() {
        int[][] rows = new int[24][];
        for (int i = 0; i < 24; i++) {
            rows[i] = Check.row(1, 0, 0, 0, 0);
        }
        PipeComputer x = Check.startedWith(rows);
        CHECK.dueTimes("24 in a row", x, 4, 5, 6, 7, 12, 13, 14, 15, 20, 21, 22, 23, 28, 29, 30, 31,
                36, 37, 38, 39, 44, 45, 46, 47, 52);
        CHECK.dueCounts("24 in a row", x, 1, 0, 25, 52, 7, 0, 0);
        x.start(3);
        CHECK.dueTimes("from 3", x, 4, 9, 10);
    }

    private static void groupsTakeTurns() {
        PipeComputer x = new PipeComputer();
        Check.put(x, 0, Check.row(19, 0, 0, 0, 4));
        Check.put(x, 4, Check.row(19, 0, 0, 0, 8));
        Check.put(x, 8, Check.row(19, 0, 0, 0, 5));
        Check.put(x, 5, Check.row(19, 0, 0, 0, 0));
        x.start(0);
        // Group 2 takes the place of group 0; group 1 stays.
        CHECK.dueTimes("0, 1, 2, 1, 0, 1", x, 4, 9, 14, 15, 20, 21);
        CHECK.due("groups not found", x.count(4), 4);
    }

    private static void latencies() {
        int[] ops = {1, 2, 3, 4, 5, 10, 11, 12, 14, 15, 16};
        int[] latency = {1, 1, 1, 1, 1, 3, 3, 4, 3, 3, 3};
        for (int k = 0; k < ops.length; k++) {
            PipeComputer x = Check.startedWith(Check.row(ops[k], 2, 0, 0, 0));
            CHECK.dueTimes("op " + ops[k], x, 4, 5);
            boolean fraction = ops[k] == 15 || ops[k] >= 10 && ops[k] <= 12;
            CHECK.due("op " + ops[k] + ": R2 is READY", x.count(12), fraction ? 0 : 4 + latency[k]);
            CHECK.due("op " + ops[k] + ": F2 is READY", x.count(22), fraction ? 4 + latency[k] : 0);
        }
        PipeComputer x = Check.startedWith(Check.row(6, 1, 0, 0, 0), Check.row(6, 2, 0, 0, 1),
                Check.row(8, 1, 0, 0, 2), Check.row(8, 2, 0, 0, 4));
        CHECK.dueTimes("loads", x, 4, 10, 11, 12, 17);
        CHECK.due("6 with a MISS", x.count(11), 11);
        CHECK.due("6", x.count(12), 12);
        CHECK.due("8", x.count(21), 13);
        CHECK.due("8 with a MISS", x.count(22), 19);
    }

    /** When an op begins that comes behind a load of R1 or F1 whose line is missing. */
    private static int afterLoad(int load, int op, int a, int b) {
        PipeComputer x = Check.startedWith(Check.row(load, 1, 0, 0, 0), Check.row(op, 3, a, b, 0));
        x.run(2);
        return x.count(3);
    }

    private static void readsOfEveryOp() {
        int[] readsRa = {1, 2, 3, 4, 5, 6, 7, 8, 9, 15, 17, 18};
        int[] readsRb = {2, 3, 4, 5, 7, 17, 18};
        int[] readsFa = {10, 11, 12, 14, 16};
        int[] readsFb = {9, 10, 11, 12, 14};
        for (int op = 0; op <= 19; op++) {
            if (op == 13) {
                continue;
            }
            int soon = op >= 6 && op <= 9 ? 10 : 5;
            CHECK.due(op + " reads Ra", afterLoad(6, op, 1, 2), has(readsRa, op) ? 11 : soon);
            CHECK.due(op + " reads Rb", afterLoad(6, op, 2, 1), has(readsRb, op) ? 11 : soon);
            CHECK.due(op + " reads Fa", afterLoad(8, op, 5, 2), has(readsFa, op) ? 11 : soon);
            CHECK.due(op + " reads Fb", afterLoad(8, op, 2, 5), has(readsFb, op) ? 11 : soon);
        }
    }

    private static void readsOfDivision() {
        for (int a = 1; a <= 2; a++) {
            int b = 3 - a;
            PipeComputer x = Check.startedWith(Check.row(1, 1, 0, 0, 1), Check.row(15, 2, 1, 0, 0),
                    Check.row(6, 3, 0, 0, 0), Check.row(8, 1, 0, 0, 20), Check.row(13, 3, a, b, 0));
            x.cell(20, 1.0);
            // F1 is READY later than the group is there.
            CHECK.dueTimes("F" + a + " / F" + b, x, 4, 5, 6, 12, 19);
        }
    }

    private static void whatWritesNothing() {
        int[] ops = {0, 7, 9, 17, 18, 19};
        for (int op : ops) {
            PipeComputer x = Check.startedWith(Check.row(op, 3, 0, 0, 1));
            x.run(1);
            for (int what = 10; what < 24; what++) {
                boolean none = what == 18 || what == 19;
                CHECK.due("op " + op + ": count(" + what + ")", x.count(what), none ? -2 : 0);
            }
        }
    }

    private static boolean has(int[] ops, int op) {
        for (int one : ops) {
            if (one == op) {
                return true;
            }
        }
        return false;
    }

    private static void divider() {
        PipeComputer x = Check.startedWith(Check.row(1, 1, 0, 0, 2), Check.row(15, 0, 1, 0, 0),
                Check.row(13, 1, 0, 0, 0), Check.row(13, 2, 0, 0, 0), Check.row(13, 3, 2, 2, 0),
                Check.row(12, 3, 0, 0, 0));
        CHECK.dueTimes("divider", x, 4, 5, 8, 16, 24, 29, 30);
        CHECK.due("F1 is READY", x.count(21), 16);
        CHECK.due("F2 is READY", x.count(22), 24);
        CHECK.due("F3 is READY", x.count(23), 33);
    }

    private static void writesStayInOrder() {
        int[][] before = {Check.row(1, 1, 0, 0, 2), Check.row(15, 0, 1, 0, 0), Check.row(13, 1, 0, 0, 0)};
        PipeComputer x = Check.startedWith(before[0], before[1], before[2], Check.row(15, 1, 0, 0, 0));
        CHECK.dueTimes("15 behind 13", x, 4, 5, 8, 14);
        CHECK.due("F1 is READY", x.count(21), 17);
        PipeComputer y = Check.startedWith(before[0], before[1], before[2], Check.row(8, 1, 0, 0, 0));
        CHECK.dueTimes("a MISS behind 13", y, 4, 5, 8, 10);
        CHECK.due("F1 is READY", y.count(21), 17);
        PipeComputer z = Check.startedWith(Check.row(1, 1, 0, 0, 2), Check.row(8, 0, 0, 0, 1),
                Check.row(13, 1, 0, 0, 0), Check.row(8, 1, 0, 0, 2));
        z.cell(1, 2.0);
        CHECK.dueTimes("a load that is found behind 13", z, 4, 5, 12, 19);
        PipeComputer w = Check.startedWith(Check.row(6, 1, 0, 0, 0), Check.row(1, 1, 0, 0, 0));
        CHECK.dueTimes("1 behind a MISS", w, 4, 11);
        CHECK.due("R1 is READY", w.count(11), 12);
        PipeComputer v = Check.startedWith(Check.row(6, 1, 0, 0, 0), Check.row(16, 1, 0, 0, 0));
        CHECK.dueTimes("16 behind a MISS", v, 4, 9);
    }

    private static void memoryUnit() {
        PipeComputer x = Check.startedWith(Check.row(7, 0, 0, 0, 0), Check.row(9, 0, 0, 0, 3),
                Check.row(1, 1, 0, 0, 0), Check.row(6, 1, 0, 0, 4), Check.row(1, 2, 0, 0, 0),
                Check.row(8, 1, 0, 0, 0), Check.row(7, 0, 0, 2, 5));
        CHECK.dueTimes("memory", x, 4, 10, 11, 12, 17, 18, 19, 20);
        CHECK.dueCounts("memory", x, 7, 1, 8, 20, 2, 2, 0);
    }

    private static void nothingWaitsForNothing() {
        PipeComputer x = Check.startedWith(Check.row(6, 0, 0, 0, 0), Check.row(2, 1, 0, 0, 0),
                Check.row(1, 0, 0, 0, 0), Check.row(17, 0, 0, 0, 5));
        CHECK.dueTimes("R0", x, 4, 5, 6, 7);
        CHECK.due("R0 is READY", x.count(10), 0);
    }

    private static void dueLines(String what, String missing, int... cells) {
        PipeComputer x = new PipeComputer();
        for (int k = 0; k < cells.length; k++) {
            x.code(k, k % 2 == 0 ? 8 : 7, 0, 0, 0, cells[k]);
        }
        // The second time shows that start leaves nothing of the first.
        for (int time = 0; time < 2; time++) {
            x.start(0);
            for (int k = 0; k < cells.length; k++) {
                int before = x.count(5);
                x.run(1);
                CHECK.due(what + ": lines not found by number " + k, x.count(5) - before, missing.charAt(k) - '0');
            }
        }
    }

    private static void linesTakeTurns() {
        dueLines("third takes the first's place", "111101", 0, 8, 16, 0, 16, 8);
        dueLines("use counts", "110101", 0, 8, 3, 16, 1, 11);
        dueLines("the one used longer ago", "11010110", 0, 8, 9, 16, 8, 0, 16, 16);
    }

    private static void linesBySet() {
        dueLines("sets are apart", "1111000011", 0, 4, 8, 12, 47 - 44, 7, 11, 15, 44, 40);
        dueLines("twelve lines", "111111111111", 0, 4, 8, 12, 16, 20, 24, 28, 32, 36, 40, 44);
    }

    private static void predictor() {
        PipeComputer x = Check.startedWith(Check.row(17, 0, 0, 1, 0), Check.row(1, 1, 1, 0, 1),
                Check.row(19, 0, 0, 0, 0));
        // Jumps at 1, so wrong; then it is 2 and 3 and 3, right.
        CHECK.dueTimes("jumps", x, 4, 7, 8, 9);
        CHECK.due("wrong", x.count(6), 1);
        PipeComputer y = Check.with(Check.row(18, 0, 1, 0, 3), Check.row(1, 1, 0, 0, 1),
                Check.row(19, 0, 0, 0, 0), Check.row(1, 1, 0, 0, 0), Check.row(19, 0, 0, 0, 0));
        y.start(0);
        // Not jumped (right, 0), jumped (wrong, 1), not jumped (right, 0), jumped (wrong, 1).
        CHECK.dueTimes("by turns", y, 4, 5, 6, 7, 10, 15, 16, 17, 18, 19, 22);
        CHECK.due("wrong", y.count(6), 2);
    }

    /** One 18 that jumps as told (1 jumps, 0 doesn't); answers which guesses were wrong. */
    private static String wrongGuesses(String jumps) {
        PipeComputer x = Check.with(Check.row(6, 1, 0, 0, 0), Check.row(18, 0, 1, 0, 0), Check.row(19, 0, 0, 0, 0));
        x.start(0);
        StringBuilder wrong = new StringBuilder();
        for (int k = 0; k < jumps.length(); k++) {
            boolean jumped = jumps.charAt(k) == '1';
            x.cell(0, jumped ? 1.0 : 0.0);
            int before = x.count(6);
            x.run(jumped ? 2 : 3);
            wrong.append(x.count(6) - before);
        }
        return wrong.toString();
    }

    private static void predictorLearns() {
        String[] jumps = {"1111100110", "0000011011", "10101010", "0111110001"};
        String[] wrong = {"1000011101", "0000011110", "11111111", "0110001101"};
        for (int k = 0; k < jumps.length; k++) {
            String got = wrongGuesses(jumps[k]);
            if (!got.equals(wrong[k])) {
                CHECK.tell("jumps " + jumps[k] + " were guessed wrongly at " + got + ", due is " + wrong[k]);
            }
        }
    }

    private static void predictorShares() {
        PipeComputer x = new PipeComputer();
        x.code(1, 17, 0, 0, 0, 9);
        x.code(9, 17, 0, 0, 0, 17);
        x.code(17, 17, 0, 0, 0, 2);
        x.code(2, 17, 0, 0, 0, 1);
        x.start(1);
        CHECK.dueTimes("1, 9, 17 share, 2 doesn't", x, 4, 11, 16, 21, 24, 29, 34);
        CHECK.due("wrong", x.count(6), 2);
        x.start(1);
        x.run(2);
        CHECK.due("new at start", x.count(6), 1);
    }

    private static void aLatenessForGroupAndJump() {
        PipeComputer x = Check.startedWith(Check.row(17, 0, 0, 0, 1), Check.row(19, 0, 0, 0, 4));
        // To the next place is a jump too; a 19 is never guessed.
        CHECK.dueTimes("jump to the next", x, 4, 7, 12);
        PipeComputer y = Check.startedWith(Check.row(17, 0, 0, 0, 20));
        CHECK.due("run(1)", y.run(1), 1);
        CHECK.due("run(1)", y.run(1), 1);
        CHECK.dueCounts("group and jump", y, 20, 1, 2, 11, 2, 0, 1);
        y.start(0);
        y.run(1);
        y.start(0);
        y.run(1);
        CHECK.due("a wrong jump before start is forgotten", y.count(3), 4);
    }
}
