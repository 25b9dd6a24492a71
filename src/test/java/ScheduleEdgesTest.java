/** Promise 6 and the term of scheduling: a test for each sentence with an edge. */
final class ScheduleEdgesTest {
    private static final Check CHECK = new Check();
    private static final int[] HALT = Check.row(0, 0, 0, 0, 0);
    private static final int[] SHORT = Check.row(1, 6, 0, 5, 9);
    private static final int[] LONG = Check.row(1, 1, 0, 3, 1);
    private static final int[] WAITS = Check.row(1, 2, 1, 7, 2);
    private static final int[] LEAVES = {0, 17, 18, 19};

    public static void main(String[] args) {
        emptyCode();
        emptyBlocks();
        blocksOfOne();
        fullBlock();
        fullBlockOfOneChain();
        fullBlockOfEqual();
        blockOfTwo();
        blockUpToTheLast();
        blocksAreApart();
        endReadsWhatMoves();
        targetsLead();
        targetsFromEveryPlace();
        targetsByEveryJump();
        targetsModuloTwentyFour();
        numbersThatAreNoTargets();
        leaderGoesWithItsOwnBlock();
        jumpsStayAsTheyAre();
        stateStays();
        inTheMidst();
        again();
        nothingIsLeftOfTheLast();
        CHECK.end();
    }

    private static void dueNothing(String what, int[]... rows) {
        PipeComputer x = Check.with(rows);
        CHECK.due(what + ": schedule()", x.schedule(), 0);
        CHECK.dueCode(what, x, 0, rows);
    }

    /** Rows for all 24 places, each with another n, so that one can be told from another. */
    private static int[][] full(int op) {
        int[][] rows = new int[24][];
        for (int i = 0; i < 24; i++) {
            rows[i] = Check.row(op, 0, 0, 0, 100 + i);
        }
        return rows;
    }

    /** "SCHEDULES all CODE": there may be nothing but HALT. */
    private static void emptyCode() {
        PipeComputer x = new PipeComputer();
        for (int time = 0; time < 2; time++) {
            CHECK.due("empty: schedule()", x.schedule(), 0);
        }
        CHECK.dueCode("empty", x, 0, HALT);
        CHECK.dueCode("empty", x, 23, HALT);
    }

    /** A LEADER that is itself one of 0 and 17 to 19 leads a BLOCK of none. */
    private static void emptyBlocks() {
        for (int op : LEAVES) {
            dueNothing("all " + op, full(op));
        }
    }

    /** "the one behind each 0 and 17 to 19" may have an end behind it at once. */
    private static void blocksOfOne() {
        for (int op : LEAVES) {
            int[][] rows = full(op);
            for (int i = 0; i < 24; i += 2) {
                rows[i] = Check.row(1, i % 8, 0, 0, i);
                rows[i + 1][4] = 0;
            }
            dueNothing("one and " + op + " by turns", rows);
        }
    }

    /** "up to the next LEADER or 0 or 17 to 19": there may be none but 0 itself. */
    private static void fullBlock() {
        int[][] rows = full(1);
        rows[22] = LONG;
        rows[23] = WAITS;
        PipeComputer x = Check.with(rows);
        CHECK.due("full: schedule()", x.schedule(), 23);
        CHECK.dueCode("full", x, 0, LONG);
        for (int i = 1; i < 23; i++) {
            CHECK.dueCode("full", x, i, rows[i - 1]);
        }
        CHECK.dueCode("full", x, 23, WAITS);
    }

    /** The greatest HEIGHT that can be: 22 times 8. */
    private static void fullBlockOfOneChain() {
        int[][] rows = new int[24][];
        rows[0] = SHORT;
        for (int i = 1; i < 24; i++) {
            rows[i] = Check.row(13, 1, 1, 1, i);
        }
        PipeComputer x = Check.with(rows);
        CHECK.due("a chain: schedule()", x.schedule(), 23);
        for (int i = 0; i < 22; i++) {
            CHECK.dueCode("a chain", x, i, rows[i + 1]);
        }
        // The last of the chain is as low as the other, which was first.
        CHECK.dueCode("a chain", x, 22, SHORT, rows[23]);
    }

    /** "the first in the old order among these." */
    private static void fullBlockOfEqual() {
        dueNothing("24 alike in height", full(1));
        int[][] rows = new int[24][];
        for (int i = 0; i < 24; i++) {
            rows[i] = Check.row(7, 0, 0, 0, i);
        }
        dueNothing("24 stores", rows);
    }

    /** "the one with the greatest HEIGHT, the first in the old order among these", of two. */
    private static void blockOfTwo() {
        dueNothing("two that wait", LONG, WAITS);
        dueNothing("two that don't", SHORT, LONG);
    }

    /** "(0, all TARGETS, the one behind each 0 and 17 to 19)": 0 leads whatever 23 is. */
    private static void blockUpToTheLast() {
        for (int op : LEAVES) {
            PipeComputer x = Check.with(SHORT, LONG, WAITS);
            int[] end = Check.row(op, 0, 0, 0, 0);
            x.code(20, op, 0, 0, 0, 0);
            Check.put(x, 21, SHORT, LONG, WAITS);
            CHECK.due("up to 23, behind " + op + ": schedule()", x.schedule(), 4);
            CHECK.dueCode("up to 23, behind " + op, x, 20, end, LONG, SHORT, WAITS);
            CHECK.dueCode("from 0 on", x, 0, LONG, SHORT, WAITS, HALT);
        }
        PipeComputer y = new PipeComputer();
        Check.put(y, 22, SHORT, LONG);
        Check.put(y, 0, WAITS);
        CHECK.due("none goes round from 23 to 0: schedule()", y.schedule(), 0);
    }

    /** Each end parts what could else pass: the one that many wait for stays behind it. */
    private static void blocksAreApart() {
        for (int op : LEAVES) {
            int[] end = Check.row(op, 0, 0, 0, 0);
            dueNothing("parted by " + op, SHORT, end, LONG, WAITS);
            dueNothing("parted by " + op, SHORT, LONG, end, WAITS);
        }
    }

    /** "(without it)": what the end of a BLOCK reads holds nothing back. */
    private static void endReadsWhatMoves() {
        for (int op = 17; op <= 18; op++) {
            int[] end = Check.row(op, 6, 6, 6, 0);
            PipeComputer x = Check.with(SHORT, LONG, WAITS, end);
            CHECK.due(op + " reads R6: schedule()", x.schedule(), 2);
            CHECK.dueCode(op + " reads R6", x, 0, LONG, SHORT, WAITS, end);
        }
    }

    private static int movedWithTarget(int place, int op, int n) {
        PipeComputer x = Check.with(SHORT, LONG, WAITS);
        x.code(place, op, 0, 0, 0, n);
        return x.schedule();
    }

    /** "all TARGETS". */
    private static void targetsLead() {
        int[] moved = {2, 0, 0, 2, 2};
        for (int target = 0; target < moved.length; target++) {
            for (int place = 4; place < 24; place++) {
                int got = movedWithTarget(place, 19, target);
                CHECK.due("19 at " + place + " to " + target + ": schedule()", got, moved[target]);
            }
            CHECK.due("19 at 3 to " + target + ": schedule()", movedWithTarget(3, 19, target), moved[target]);
        }
    }

    /** A jump parts a BLOCK far before it and far behind it, from the first place to the last. */
    private static void targetsFromEveryPlace() {
        for (int place = 0; place < 24; place++) {
            int from = place < 12 ? 20 : 4;
            PipeComputer x = new PipeComputer();
            Check.put(x, from, SHORT, LONG, WAITS);
            x.code(place, 17, 0, 0, 0, from + 1);
            CHECK.due("17 at " + place + " into the midst: schedule()", x.schedule(), 0);
            x.code(place, 17, 0, 0, 0, from);
            CHECK.due("17 at " + place + " to the first: schedule()", x.schedule(), 2);
        }
    }

    /** "all TARGETS": of 17, 18 and 19 alike, and to themselves. */
    private static void targetsByEveryJump() {
        for (int op = 17; op <= 19; op++) {
            CHECK.due(op + " to 1: schedule()", movedWithTarget(9, op, 1), 0);
            CHECK.due(op + " to itself: schedule()", movedWithTarget(9, op, 9), 2);
        }
    }

    /** "TARGETS are n modulo 24, from 0 on." */
    private static void targetsModuloTwentyFour() {
        for (int n : new int[] {1, 25, 49, -23, -47, 2147483641, -2147483639}) {
            CHECK.due("TARGET " + n + ": schedule()", movedWithTarget(23, 18, n), 0);
        }
        for (int n : new int[] {24, -24, -1, 23, 2147483640, -2147483640, -2147483648}) {
            CHECK.due("TARGET " + n + ": schedule()", movedWithTarget(23, 18, n), 2);
        }
    }

    /** Only 17 to 19 have a TARGET. */
    private static void numbersThatAreNoTargets() {
        for (int op = 0; op <= 16; op++) {
            CHECK.due(op + " with n 1: schedule()", movedWithTarget(9, op, 1), 2);
        }
    }

    /** "from a LEADER on": the TARGET belongs to the later BLOCK, and may move in it. */
    private static void leaderGoesWithItsOwnBlock() {
        int[] jump = Check.row(19, 0, 0, 0, 2);
        PipeComputer x = Check.with(LONG, WAITS, SHORT, LONG, WAITS, jump);
        CHECK.due("TARGET that moves: schedule()", x.schedule(), 2);
        CHECK.dueCode("TARGET that moves", x, 0, LONG, WAITS, LONG, SHORT, WAITS, jump);
        PipeComputer y = Check.with(SHORT, LONG, LONG, WAITS, SHORT, Check.row(18, 0, 0, 0, 2), Check.row(17, 0, 0, 0, 3));
        CHECK.due("two TARGETS in a row: schedule()", y.schedule(), 0);
    }

    /** "(without it)": the end of a BLOCK stays where and what it is. */
    private static void jumpsStayAsTheyAre() {
        int[] jump = Check.row(18, 7, 6, 5, -24);
        PipeComputer x = Check.with(SHORT, LONG, WAITS, jump);
        x.schedule();
        CHECK.dueCode("a jump keeps its n", x, 3, jump);
        CHECK.dueCode("parts that name nothing go along", x, 0, LONG, SHORT);
    }

    /** Only CODE is changed. */
    private static void stateStays() {
        PipeComputer x = Check.with(SHORT, LONG, WAITS, Check.row(15, 3, 2, 0, 0), Check.row(9, 0, 0, 3, 47));
        x.start(0);
        x.run(6);
        String before = Check.stateOf(x);
        // The chain from LONG to the store goes first; SHORT is placed with the last of it.
        CHECK.due("STOPPED: schedule()", x.schedule(), 4);
        CHECK.dueCode("STOPPED", x, 0, LONG, WAITS, Check.row(15, 3, 2, 0, 0), SHORT, Check.row(9, 0, 0, 3, 47));
        CHECK.dueText("STOPPED", Check.stateOf(x), before);
        CHECK.dueThrow("STOPPED: run(1)", IllegalStateException.class, () -> x.run(1));
    }

    /** "(but where .. the computer is stopped in the midst)": it goes on at its number, in the new order. */
    private static void inTheMidst() {
        PipeComputer x = Check.startedWith(SHORT, LONG, WAITS);
        x.run(1);
        String before = Check.stateOf(x);
        CHECK.due("in the midst: schedule()", x.schedule(), 2);
        CHECK.dueText("in the midst", Check.stateOf(x), before);
        CHECK.due("in the midst: run(300)", x.run(300), 3);
        CHECK.due("LONG is passed over", x.whole(1), 0);
        CHECK.due("SHORT is done twice", x.whole(6), 9);
        CHECK.dueCounts("in the midst", x, 3, 1, 4, 7, 1, 0, 0);
    }

    /** "how many INSTRUCTIONS are at another place": by this call, not since they were put in. */
    private static void again() {
        PipeComputer x = Check.with(SHORT, LONG, WAITS);
        CHECK.due("first: schedule()", x.schedule(), 2);
        CHECK.due("second: schedule()", x.schedule(), 0);
        Check.put(x, 0, SHORT, LONG);
        CHECK.due("put in again: schedule()", x.schedule(), 2);
        CHECK.dueCode("put in again", x, 0, LONG, SHORT, WAITS, HALT);
    }

    /** What was found out of one code, who waits and how high it is, is nothing to the next. */
    private static void nothingIsLeftOfTheLast() {
        PipeComputer x = new PipeComputer();
        for (int i = 0; i < 24; i++) {
            x.code(i, 13, 1, 1, 1, i);
        }
        CHECK.due("each waits: schedule()", x.schedule(), 0);
        Check.put(x, 0, SHORT, LONG, WAITS, HALT);
        CHECK.due("one no longer waits: schedule()", x.schedule(), 2);
        PipeComputer y = Check.with(HALT, HALT, LONG, WAITS);
        CHECK.due("2 is high: schedule()", y.schedule(), 0);
        Check.put(y, 0, SHORT, LONG, Check.row(1, 5, 0, 0, 0), HALT);
        CHECK.due("2 is no longer high: schedule()", y.schedule(), 0);
    }
}
