/** Promise 6: the new order, block by block. */
final class SchedulerTest {
    private static final Check CHECK = new Check();

    public static void main(String[] args) {
        nothingToDo();
        longestFirst();
        firstAmongEqual();
        mustStay();
        mayPass();
        heights();
        blocks();
        lastBlock();
        placesNotTexts();
        onlyCodeChanges();
        CHECK.end();
    }

    /** Puts the rows in, schedules, and wants them in the order told. */
    private static void dueOrder(String what, int[][] rows, int... order) {
        PipeComputer x = Check.with(rows);
        int moved = 0;
        int[][] want = new int[order.length][];
        for (int k = 0; k < order.length; k++) {
            want[k] = rows[order[k]];
            if (order[k] != k) {
                moved++;
            }
        }
        CHECK.due(what + ": schedule()", x.schedule(), moved);
        CHECK.dueCode(what, x, 0, want);
    }

    private static void nothingToDo() {
        PipeComputer x = new PipeComputer();
        CHECK.due("all HALT: schedule()", x.schedule(), 0);
        CHECK.dueCounts("all HALT", x, 0, 1, 0, -1, 0, 0, 0);
        x.code(5, 1, 1, 1, 1, 1);
        CHECK.due("one: schedule()", x.schedule(), 0);
        CHECK.dueCode("one", x, 5, Check.row(1, 1, 1, 1, 1));
    }

    private static void longestFirst() {
        int[][] rows = {
            Check.row(1, 1, 0, 0, 5), Check.row(1, 2, 0, 0, 6), Check.row(8, 0, 0, 0, 3),
            Check.row(12, 1, 0, 0, 0), Check.row(9, 0, 0, 1, 4), Check.row(2, 3, 1, 2, 0)};
        dueOrder("the load and what waits for it first", rows, 2, 3, 0, 1, 4, 5);
    }

    /** "the first in the old order among these." */
    private static void firstAmongEqual() {
        int[][] rows = {
            Check.row(1, 1, 0, 0, 1), Check.row(1, 2, 0, 0, 2), Check.row(15, 0, 1, 0, 0),
            Check.row(15, 1, 2, 0, 0), Check.row(1, 3, 0, 0, 3), Check.row(1, 4, 3, 0, 3)};
        // Heights: 1, 1, 0, 0, 1, 0.
        dueOrder("the old order among equal", rows, 0, 1, 4, 2, 3, 5);
    }

    /** Two rows wait for the second, one behind the other, so it goes first unless it must stay. */
    private static void dueStays(String what, boolean stays, int[] first, int[] second, int[] waits) {
        PipeComputer x = Check.with(first, second, waits, waits);
        CHECK.due(what + ": schedule()", x.schedule(), stays ? 0 : 3);
        CHECK.dueCode(what, x, 0, stays ? first : second, stays ? second : waits, stays ? waits : first, waits);
    }

    /** "if one writes a register that the other reads or writes .. or if both are of 6 to 13". */
    private static void mustStay() {
        int[] readsR3 = Check.row(16, 3, 0, 0, 0);
        dueStays("reads what was written", true, Check.row(1, 1, 0, 0, 1), Check.row(1, 3, 1, 0, 1), readsR3);
        dueStays("writes what was read by a", true, Check.row(1, 5, 3, 0, 1), Check.row(1, 3, 0, 0, 1), readsR3);
        dueStays("writes what was read by b", true, Check.row(2, 5, 0, 3, 1), Check.row(1, 3, 0, 0, 1), readsR3);
        dueStays("writes what was written", true, Check.row(1, 3, 0, 0, 1), Check.row(1, 3, 0, 0, 2), readsR3);
        int[] waitsF3 = Check.row(14, 1, 3, 7, 0);
        dueStays("F by number modulo 4", true, Check.row(16, 1, 3, 0, 0), Check.row(15, 7, 0, 0, 0), waitsF3);
        for (int op = 6; op <= 13; op++) {
            for (int later = 6; later <= 13; later++) {
                boolean whole = later == 6 || later == 7;
                int[] waits = whole ? Check.row(1, 3, 3, 0, 0) : Check.row(10, 3, 3, 3, 0);
                dueStays(op + " and " + later, true, Check.row(op, 2, 4, 5, 0), Check.row(later, 3, 0, 3, 0), waits);
            }
        }
    }

    /** "(R0 doesn't count)", and what is none of these: 5 and 14 are the ops next to 6 to 13. */
    private static void mayPass() {
        int[] readsR3 = Check.row(1, 3, 3, 0, 0);
        int[] readsF3 = Check.row(14, 6, 3, 3, 0);
        dueStays("apart", false, Check.row(1, 5, 4, 0, 1), Check.row(1, 3, 1, 0, 1), readsR3);
        dueStays("both read", false, Check.row(1, 5, 1, 0, 1), Check.row(1, 3, 1, 0, 1), readsR3);
        dueStays("R0 written and read", false, Check.row(1, 0, 4, 0, 1), Check.row(1, 3, 0, 0, 1), readsR3);
        int[] loadR0 = Check.row(6, 0, 0, 0, 1);
        int[] load = Check.row(8, 3, 0, 0, 0);
        dueStays("R0 read and written", false, Check.row(1, 5, 0, 0, 1), loadR0, load);
        dueStays("R0 written twice", false, Check.row(1, 0, 4, 0, 1), loadR0, load);
        dueStays("R3 and F3", false, Check.row(14, 3, 0, 0, 1), Check.row(15, 3, 0, 0, 1), Check.row(16, 1, 3, 0, 0));
        dueStays("b that isn't read", false, Check.row(1, 5, 4, 3, 1), Check.row(1, 3, 1, 0, 1), readsR3);
        dueStays("d that isn't written", false, Check.row(7, 3, 0, 0, 1), Check.row(1, 3, 1, 0, 1), readsR3);
        int[] around = {1, 2, 3, 4, 5, 14, 15, 16};
        for (int op : around) {
            int[] first = Check.row(op, 2, 1, 1, 0);
            dueStays(op + " and 8", false, first, Check.row(8, 3, 0, 0, 0), readsF3);
            dueStays(op + " and 13", false, first, Check.row(13, 3, 0, 0, 0), readsF3);
        }
    }

    /** Finds a row's height: it goes before a chain of 1s that is lower, not before one as high. */
    private static void dueHeight(String what, int height, int[] first, int[]... waits) {
        for (int chain = height - 1; chain <= height; chain++) {
            PipeComputer x = new PipeComputer();
            for (int k = 0; k <= chain; k++) {
                x.code(k, 1, 7, 7, 0, k);
            }
            Check.put(x, chain + 1, first);
            Check.put(x, chain + 2, waits);
            x.schedule();
            CHECK.dueCode(what + " against " + chain, x, 0, chain < height ? first : Check.row(1, 7, 7, 0, 0));
        }
    }

    /** "of one that nothing must stay behind: 0; else the greatest, over those that must .." */
    private static void heights() {
        int[] readsR1 = Check.row(1, 2, 1, 0, 0);
        int[] readsF1 = Check.row(16, 2, 1, 0, 0);
        for (int op = 1; op <= 5; op++) {
            dueHeight("op " + op, 1, Check.row(op, 1, 0, 0, 0), readsR1);
        }
        dueHeight("op 6", 2, Check.row(6, 1, 0, 0, 0), readsR1);
        dueHeight("op 8", 2, Check.row(8, 1, 0, 0, 0), readsF1);
        dueHeight("op 10", 3, Check.row(10, 1, 0, 0, 0), readsF1);
        dueHeight("op 11", 3, Check.row(11, 1, 0, 0, 0), readsF1);
        dueHeight("op 12", 4, Check.row(12, 1, 0, 0, 0), readsF1);
        dueHeight("op 13", 8, Check.row(13, 1, 0, 0, 0), readsF1);
        dueHeight("op 14", 3, Check.row(14, 1, 0, 0, 0), readsR1);
        dueHeight("op 15", 3, Check.row(15, 1, 0, 0, 0), readsF1);
        dueHeight("op 16", 3, Check.row(16, 1, 0, 0, 0), readsR1);
        dueHeight("written again", 1, Check.row(13, 1, 0, 0, 0), Check.row(15, 1, 0, 0, 0));
        dueHeight("written when read", 1, Check.row(14, 1, 2, 3, 0), Check.row(15, 2, 0, 0, 0));
        dueHeight("turns alone", 1, Check.row(13, 1, 0, 0, 0), Check.row(6, 3, 0, 0, 0));
        dueHeight("R0 isn't waited for", 1, Check.row(6, 0, 0, 0, 0), Check.row(6, 3, 0, 0, 0));
        dueHeight("read, though another writes it in between", 8,
                Check.row(13, 1, 0, 0, 0), Check.row(15, 1, 0, 0, 0), readsF1);
        int[] high = Check.row(15, 1, 1, 0, 0);
        int[] low = Check.row(1, 3, 1, 0, 0);
        dueHeight("the greatest comes first", 4, Check.row(1, 1, 0, 0, 0), high, readsF1, low);
        dueHeight("the greatest comes last", 4, Check.row(1, 1, 0, 0, 0), low, high, readsF1);
        dueHeight("read and written", 3, Check.row(15, 1, 0, 0, 0), Check.row(10, 1, 1, 0, 0));
    }

    private static final int[] SHORT = Check.row(1, 6, 0, 0, 9);
    private static final int[] LONG = Check.row(1, 1, 0, 0, 1);
    private static final int[] WAITS = Check.row(1, 2, 1, 0, 2);

    private static void blocks() {
        int[] ends = {0, 17, 18, 19};
        for (int op : ends) {
            int[] end = Check.row(op, 0, 0, 0, 0);
            PipeComputer x = Check.with(SHORT, LONG, WAITS, end, SHORT, LONG, WAITS, end);
            CHECK.due("two blocks: schedule()", x.schedule(), 4);
            CHECK.dueCode("two blocks", x, 0, LONG, SHORT, WAITS, end, LONG, SHORT, WAITS, end);
        }
        int[] targets = {1, 25, -23, 2147483641};
        for (int n : targets) {
            for (int op = 17; op <= 19; op++) {
                PipeComputer x = Check.with(SHORT, LONG, WAITS);
                x.code(20, op, 0, 0, 0, n);
                CHECK.due("target " + n + ": schedule()", x.schedule(), 0);
                CHECK.dueCode("target " + n, x, 0, SHORT, LONG, WAITS);
            }
        }
        PipeComputer x = Check.with(SHORT, LONG, WAITS, Check.row(19, 0, 0, 0, 2));
        CHECK.due("a target parts: schedule()", x.schedule(), 0);
        PipeComputer y = Check.with(Check.row(1, 6, 0, 0, 1), Check.row(1, 1, 0, 0, 1), WAITS);
        CHECK.due("n of another op is no target: schedule()", y.schedule(), 2);
    }

    private static void lastBlock() {
        PipeComputer x = new PipeComputer();
        Check.put(x, 21, SHORT, LONG, WAITS);
        CHECK.due("up to 23: schedule()", x.schedule(), 2);
        CHECK.dueCode("up to 23", x, 20, Check.row(0, 0, 0, 0, 0), LONG, SHORT, WAITS);
        PipeComputer y = Check.with(WAITS);
        Check.put(y, 22, SHORT, LONG);
        CHECK.due("0 is another block: schedule()", y.schedule(), 0);
    }

    /** "how many INSTRUCTIONS are at another place." */
    private static void placesNotTexts() {
        PipeComputer x = Check.with(SHORT, Check.row(1, 0, 0, 0, 9), Check.row(1, 0, 0, 0, 9), LONG, WAITS);
        // The two alike are at 2 and 3 afterwards: each is at another place.
        CHECK.due("alike: schedule()", x.schedule(), 4);
        CHECK.dueCode("alike", x, 0, LONG, SHORT, Check.row(1, 0, 0, 0, 9), Check.row(1, 0, 0, 0, 9), WAITS);
        CHECK.due("again: schedule()", x.schedule(), 0);
        x.code(1, 1, 5, 5, 5, 5);
        CHECK.dueCode("code behind schedule", x, 0, LONG, Check.row(1, 5, 5, 5, 5), Check.row(1, 0, 0, 0, 9));
    }

    private static void onlyCodeChanges() {
        PipeComputer x = Check.startedWith(SHORT, LONG, WAITS);
        x.run(1);
        CHECK.due("schedule() in the midst", x.schedule(), 2);
        CHECK.dueCounts("schedule() in the midst", x, 1, 0, 1, 4, 1, 0, 0);
        CHECK.dueTimes("what is there now is done", x, 5);
        CHECK.due("whole(6)", x.whole(6), 9);
        CHECK.due("whole(1)", x.whole(1), 0);
    }
}
