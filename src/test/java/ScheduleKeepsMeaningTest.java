import java.util.Random;

/**
 * Promise 6, on many programs: scheduled code does the same, and scheduling keeps all instructions. Where
 * something throws, the same is thrown, and memory is the same, as what can throw or store keeps its turn.
 */
final class ScheduleKeepsMeaningTest {
    private static final Check CHECK = new Check();
    private static final int PROGRAMS = 3000;

    public static void main(String[] args) {
        Random random = new Random(1);
        int halted = 0;
        int thrown = 0;
        for (int k = 0; k < PROGRAMS; k++) {
            String end = sameAfterScheduling(k, randomProgram(random), random);
            halted += end.equals("HALT") ? 1 : 0;
            thrown += end.endsWith("Exception") ? 1 : 0;
        }
        if (halted < PROGRAMS / 4 || thrown < PROGRAMS / 20) {
            CHECK.tell("only " + halted + " programs came to their HALT, " + thrown + " threw");
        }
        schedulesLikeNew(random);
        CHECK.end();
    }

    /** One object schedules program after program, each as a new object would. */
    private static void schedulesLikeNew(Random random) {
        for (int k = 0; k < 300; k++) {
            PipeComputer used = new PipeComputer();
            // With all that is told, more turns would go beyond 512 calls.
            for (int turn = 0; turn < 3; turn++) {
                int[][] rows = randomProgram(random);
                PipeComputer fresh = Check.with(rows);
                Check.put(used, 0, rows);
                CHECK.due("schedule() number " + turn, used.schedule(), fresh.schedule());
                for (int i = 0; i < 24; i++) {
                    CHECK.dueText("schedule() number " + turn, Check.codeAt(used, i), Check.codeAt(fresh, i));
                }
            }
        }
    }

    private static int[][] randomProgram(Random random) {
        int[][] rows = new int[24][];
        for (int i = 0; i < 24; i++) {
            boolean jumps = random.nextInt(8) == 0;
            int op = jumps ? 17 + random.nextInt(3) : 1 + random.nextInt(16);
            boolean memory = op >= 6 && op <= 9;
            int a = memory && random.nextInt(4) != 0 ? 0 : random.nextInt(8);
            // Most jumps go onwards, so that most programs end.
            int target = random.nextInt(5) == 0 ? random.nextInt(24) : i + 1 + random.nextInt(24 - i);
            int n = jumps ? target : random.nextInt(memory ? 48 : 5);
            rows[i] = Check.row(op, random.nextInt(8), a, random.nextInt(8), n);
        }
        rows[23] = Check.row(0, 0, 0, 0, 0);
        return rows;
    }

    private static PipeComputer filled(int[][] rows, long seed) {
        Random random = new Random(seed);
        PipeComputer x = Check.with(rows);
        for (int i = 0; i < 48; i++) {
            x.cell(i, random.nextInt(9) - 2);
        }
        return x;
    }

    /** Answers how the program ended. */
    private static String sameAfterScheduling(int number, int[][] rows, Random random) {
        long seed = random.nextLong();
        PipeComputer plain = filled(rows, seed);
        PipeComputer scheduled = filled(rows, seed);
        int moved = scheduled.schedule();
        dueSameInstructions("program " + number, plain, scheduled, moved);
        String end = endOf(plain);
        if (end.equals("no end")) {
            return end;
        }
        CHECK.dueText("program " + number, endOf(scheduled), end);
        if (end.equals("HALT")) {
            CHECK.due("program " + number + ": count(2)", scheduled.count(2), plain.count(2));
            dueSameRegisters("program " + number, plain, scheduled);
        }
        dueSameMemory("program " + number, plain, scheduled);
        return end;
    }

    private static String endOf(PipeComputer x) {
        x.start(0);
        try {
            x.run(300);
        } catch (IndexOutOfBoundsException | ArithmeticException e) {
            return e.getClass().getName();
        }
        return x.count(1) == 1 ? "HALT" : "no end";
    }

    private static void dueSameInstructions(String what, PipeComputer plain, PipeComputer scheduled, int moved) {
        int others = 0;
        long sumBefore = 0;
        long sumAfter = 0;
        for (int i = 0; i < 24; i++) {
            long before = Check.codeAt(plain, i).hashCode();
            long after = Check.codeAt(scheduled, i).hashCode();
            sumBefore += before;
            sumAfter += after;
            others += before == after ? 0 : 1;
            if (plain.told(i, 0) == 0 || plain.told(i, 0) >= 17) {
                CHECK.due(what + ": the end of a block stays at " + i, after, before);
            }
        }
        CHECK.due(what + ": the instructions", sumAfter, sumBefore);
        if (others > moved) {
            CHECK.tell(what + ": schedule() answered " + moved + ", but " + others + " places differ");
        }
    }

    private static void dueSameRegisters(String what, PipeComputer plain, PipeComputer scheduled) {
        for (int r = 0; r < 8; r++) {
            CHECK.due(what + ": whole(" + r + ")", scheduled.whole(r), plain.whole(r));
        }
        for (int r = 0; r < 4; r++) {
            CHECK.dueFraction(what + ": fraction(" + r + ")", scheduled.fraction(r), plain.fraction(r));
        }
    }

    private static void dueSameMemory(String what, PipeComputer plain, PipeComputer scheduled) {
        for (int i = 0; i < 48; i++) {
            CHECK.dueFraction(what + ": memory(" + i + ")", scheduled.memory(i), plain.memory(i));
        }
    }
}
