/** "An object is used for at most 512 calls": all of them are answered rightly, also the last. */
final class LongUseTest {
    private static final Check CHECK = new Check();
    private static final int CALLS = 512;
    private static final int MOST = 300;

    public static void main(String[] args) {
        divisions();
        misses();
        asking();
        CHECK.end();
    }

    private static void divisions() {
        PipeComputer x = Check.startedWith(Check.row(1, 1, 0, 0, 1), Check.row(15, 0, 1, 0, 0),
                Check.row(13, 1, 0, 0, 0), Check.row(19, 0, 0, 0, 2));
        int runs = CALLS - 5 - 3;
        for (int k = 0; k < runs; k++) {
            CHECK.due("run(300) number " + k, x.run(MOST), MOST);
        }
        // The division number k begins at 8 k, and the jump behind it 1 later.
        int divisions = (runs * MOST - 2) / 2;
        CHECK.due("INSTRUCTIONS done", x.count(2), runs * MOST);
        CHECK.due("when the last BEGAN", x.count(3), 8 * divisions + 1);
        CHECK.due("when F1 is READY", x.count(21), 8 * divisions + 8);
    }

    private static void misses() {
        // Lines 0, 2 and 4 share the two places of one set, so none is ever found.
        PipeComputer x = Check.startedWith(Check.row(6, 1, 0, 0, 0), Check.row(7, 0, 0, 0, 8),
                Check.row(8, 1, 0, 0, 16), Check.row(19, 0, 0, 0, 0));
        int runs = CALLS - 5 - 4;
        for (int k = 0; k < runs; k++) {
            CHECK.due("run(300) number " + k, x.run(MOST), MOST);
        }
        int rounds = runs * MOST / 4;
        CHECK.due("INSTRUCTIONS done", x.count(2), runs * MOST);
        // Memory is free 6 after each MISS, so that a round takes 18.
        CHECK.due("when the last BEGAN", x.count(3), 4 + 18 * (rounds - 1) + 13);
        CHECK.due("GROUPS not found", x.count(4), 1);
        CHECK.due("LINES not found", x.count(5), 3 * rounds);
    }

    private static void asking() {
        PipeComputer x = Check.with(Check.row(1, 6, 0, 0, 9), Check.row(1, 1, 0, 0, 1), Check.row(1, 2, 1, 0, 2));
        for (int k = 0; k < 100; k++) {
            x.code(0, 1, 6, 0, 0, 9);
            x.code(1, 1, 1, 0, 0, 1);
            CHECK.due("schedule() number " + k, x.schedule(), 2);
            x.start(0);
            CHECK.due("run(300) number " + k, x.run(MOST), 4);
        }
        CHECK.dueCounts("the last", x, 3, 1, 4, 7, 1, 0, 0);
    }
}
