import java.util.Arrays;

/**
 * A computer whose instructions overlap, with a clock that says when each one could begin, and a
 * scheduler that puts code in a better order without changing what it does.
 */
public final class PipeComputer {
    private static final int HALT = 0;
    private static final int ADD_NUMBER = 1;
    private static final int ADD = 2;
    private static final int SUBTRACT = 3;
    private static final int MULTIPLY = 4;
    private static final int BELOW = 5;
    private static final int LOAD = 6;
    private static final int STORE = 7;
    private static final int LOAD_FRACTION = 8;
    private static final int STORE_FRACTION = 9;
    private static final int ADD_FRACTIONS = 10;
    private static final int SUBTRACT_FRACTIONS = 11;
    private static final int MULTIPLY_FRACTIONS = 12;
    private static final int DIVIDE = 13;
    private static final int BELOW_FRACTION = 14;
    private static final int TO_FRACTION = 15;
    private static final int TO_WHOLE = 16;
    private static final int JUMP_IF_EQUAL = 17;
    private static final int JUMP_IF_NOT = 18;
    private static final int JUMP = 19;

    private static final int PLACES = 24;
    private static final int CELLS = 48;
    private static final int WHOLES = 8;
    private static final int FRACTIONS = 4;
    private static final int MOST_AT_ONCE = 300;
    private static final int CELL_LIMIT = 1000000;
    private static final int OUTCOME_LIMIT = 1000000000;
    private static final int UNKNOWN_COUNT = -2;

    /** No register, group, line or time: each of these is numbered from 0 on. */
    private static final int NONE = -1;

    private static final int GROUP_SIZE = 4;
    private static final int GROUP_DELAY = 4;
    private static final int LINE_SIZE = 4;
    private static final int LINE_DELAY = 5;
    private static final int WRONG_JUMP_DELAY = 2;
    private static final int DIVIDER_BUSY = 8;
    private static final int MEMORY_BUSY = 1;

    private static final int[] LATENCY = {0, 1, 1, 1, 1, 1, 2, 0, 2, 0, 3, 3, 4, 8, 3, 3, 3, 0, 0, 0};

    // By op: whether d, a and b name nothing (0), an R (1) or an F (2).
    private static final int NAMES_WHOLE = 1;
    private static final int NAMES_FRACTION = 2;
    private static final int[] WRITTEN_D = {0, 1, 1, 1, 1, 1, 1, 0, 2, 0, 2, 2, 2, 2, 1, 2, 1, 0, 0, 0};
    private static final int[] READ_A = {0, 1, 1, 1, 1, 1, 1, 1, 1, 1, 2, 2, 2, 2, 2, 1, 2, 1, 1, 0};
    private static final int[] READ_B = {0, 0, 1, 1, 1, 1, 0, 1, 0, 2, 2, 2, 2, 2, 2, 0, 0, 1, 1, 0};

    private final Instruction[] program = new Instruction[PLACES];
    private final double[] cells = new double[CELLS];
    private final int[] wholes = new int[WHOLES];
    private final double[] fractions = new double[FRACTIONS];
    private final Clock clock = new Clock();
    private final CodeCache codeCache = new CodeCache();
    private final DataCache dataCache = new DataCache();
    private final Predictor predictor = new Predictor();
    private final Scheduler scheduler = new Scheduler();
    private int at = 0;
    private boolean stopped = true;
    private int done = 0;

    public PipeComputer() {
        for (int i = 0; i < PLACES; i++) {
            program[i] = new Instruction();
        }
    }

    public void code(int i, int op, int d, int a, int b, int n) throws IllegalArgumentException {
        refuseOutside(i, PLACES - 1);
        refuseOutside(op, JUMP);
        refuseOutside(d, WHOLES - 1);
        refuseOutside(a, WHOLES - 1);
        refuseOutside(b, WHOLES - 1);
        program[i].become(op, d, a, b, n);
    }

    public void cell(int i, double v) throws IllegalArgumentException {
        refuseOutside(i, CELLS - 1);
        boolean within = v >= -CELL_LIMIT && v <= CELL_LIMIT;
        // Asked this way round so that what is no number is refused too.
        if (!within) {
            throw new IllegalArgumentException();
        }
        cells[i] = v;
    }

    public void start(int i) throws IllegalArgumentException {
        refuseOutside(i, PLACES - 1);
        at = i;
        stopped = false;
        done = 0;
        Arrays.fill(wholes, 0);
        Arrays.fill(fractions, 0.0);
        clock.reset();
        codeCache.empty();
        dataCache.empty();
        predictor.reset();
    }

    public int run(int n)
            throws IllegalArgumentException, IllegalStateException, IndexOutOfBoundsException, ArithmeticException {
        if (n < 1 || n > MOST_AT_ONCE) {
            throw new IllegalArgumentException();
        }
        if (stopped) {
            throw new IllegalStateException();
        }
        int steps = 0;
        while (steps < n && !stopped) {
            doOne();
            steps++;
        }
        return steps;
    }

    public int schedule() {
        return scheduler.reorder(program);
    }

    public int whole(int r) throws IllegalArgumentException {
        refuseOutside(r, WHOLES - 1);
        return wholes[r];
    }

    public double fraction(int r) throws IllegalArgumentException {
        refuseOutside(r, FRACTIONS - 1);
        return fractions[r];
    }

    public double memory(int i) throws IllegalArgumentException {
        refuseOutside(i, CELLS - 1);
        return cells[i];
    }

    public int told(int i, int what) throws IllegalArgumentException {
        refuseOutside(i, PLACES - 1);
        refuseOutside(what, 4);
        Instruction it = program[i];
        switch (what) {
            case 0:
                return it.op;
            case 1:
                return it.d;
            case 2:
                return it.a;
            case 3:
                return it.b;
            default:
                return it.n;
        }
    }

    public int count(int what) {
        if (what >= 10 && what < 10 + WHOLES) {
            return clock.ready[what - 10];
        }
        if (what >= 20 && what < 20 + FRACTIONS) {
            return clock.ready[WHOLES + what - 20];
        }
        switch (what) {
            case 0:
                return at;
            case 1:
                return stopped ? 1 : 0;
            case 2:
                return done;
            case 3:
                return clock.began;
            case 4:
                return codeCache.notFound;
            case 5:
                return dataCache.notFound;
            case 6:
                return predictor.wrong;
            default:
                return UNKNOWN_COUNT;
        }
    }

    private static void refuseOutside(int number, int greatest) {
        if (number < 0 || number > greatest) {
            throw new IllegalArgumentException();
        }
    }

    private void doOne() {
        Instruction it = program[at];
        boolean groupMissed = codeCache.misses(at / GROUP_SIZE);
        boolean lineMissed = false;
        boolean jumps = false;
        boolean wrong = false;
        if (it.goesToMemory()) {
            lineMissed = moveCell(it);
        } else if (it.hasTarget()) {
            jumps = jumpIsDue(it);
            wrong = it.op != JUMP && predictor.guessesWrong(at, jumps);
        } else if (it.op == HALT) {
            stopped = true;
        } else {
            compute(it);
        }
        clock.begin(it, groupMissed, lineMissed, wrong);
        done++;
        if (!stopped) {
            at = jumps ? it.target() : (at + 1) % PLACES;
        }
    }

    private boolean jumpIsDue(Instruction it) {
        boolean equal = wholes[it.a] == wholes[it.b];
        switch (it.op) {
            case JUMP_IF_EQUAL:
                return equal;
            case JUMP_IF_NOT:
                return !equal;
            default:
                return true;
        }
    }

    /** Does a load or store; answers whether its line was missing. */
    private boolean moveCell(Instruction it) {
        int address = wholes[it.a] + it.n;
        if (address < 0 || address >= CELLS) {
            stopped = true;
            throw new IndexOutOfBoundsException();
        }
        switch (it.op) {
            case LOAD:
                putWhole(it.d, (int) cells[address]);
                break;
            case STORE:
                cells[address] = wholes[it.b];
                break;
            case LOAD_FRACTION:
                fractions[it.d % FRACTIONS] = cells[address];
                break;
            default:
                cells[address] = fractions[it.b % FRACTIONS];
                break;
        }
        return dataCache.misses(address / LINE_SIZE);
    }

    private void compute(Instruction it) {
        if (it.op <= BELOW) {
            putWhole(it.d, computedWhole(it));
            return;
        }
        double x = fractions[it.a % FRACTIONS];
        double y = fractions[it.b % FRACTIONS];
        switch (it.op) {
            case BELOW_FRACTION:
                putWhole(it.d, x < y ? 1 : 0);
                break;
            case TO_FRACTION:
                fractions[it.d % FRACTIONS] = wholes[it.a];
                break;
            case TO_WHOLE:
                putWhole(it.d, (int) x);
                break;
            default:
                fractions[it.d % FRACTIONS] = computedFraction(it.op, x, y);
                break;
        }
    }

    private int computedWhole(Instruction it) {
        int x = wholes[it.a];
        int y = wholes[it.b];
        switch (it.op) {
            case ADD_NUMBER:
                return x + it.n;
            case ADD:
                return x + y;
            case SUBTRACT:
                return x - y;
            case MULTIPLY:
                return x * y;
            default:
                return x < y ? 1 : 0;
        }
    }

    private double computedFraction(int op, double x, double y) {
        double outcome = outcomeOf(op, x, y);
        if (outcome > OUTCOME_LIMIT || outcome < -OUTCOME_LIMIT) {
            stopped = true;
            throw new ArithmeticException();
        }
        return outcome;
    }

    private double outcomeOf(int op, double x, double y) {
        switch (op) {
            case ADD_FRACTIONS:
                return x + y;
            case SUBTRACT_FRACTIONS:
                return x - y;
            case MULTIPLY_FRACTIONS:
                return x * y;
            default:
                return quotient(x, y);
        }
    }

    private double quotient(double x, double y) {
        if (y == 0.0) {
            stopped = true;
            throw new ArithmeticException();
        }
        return x / y;
    }

    private void putWhole(int r, int v) {
        if (r != 0) {
            wholes[r] = v;
        }
    }

    /** One instruction; it numbers the registers R0 .. R7 as 0 .. 7 and F0 .. F3 as 8 .. 11. */
    private static final class Instruction {
        int op = HALT;
        int d = 0;
        int a = 0;
        int b = 0;
        int n = 0;
        int written = NONE;
        int firstRead = NONE;
        int secondRead = NONE;

        void become(int newOp, int newD, int newA, int newB, int newN) {
            op = newOp;
            d = newD;
            a = newA;
            b = newB;
            n = newN;
            written = register(WRITTEN_D[op], d);
            firstRead = register(READ_A[op], a);
            secondRead = register(READ_B[op], b);
        }

        boolean readsWhatIsWrittenBy(Instruction other) {
            int register = other.written;
            return register != NONE && (firstRead == register || secondRead == register);
        }

        boolean mustStayBehind(Instruction earlier) {
            boolean bothWrite = written != NONE && written == earlier.written;
            return bothWrite
                    || readsWhatIsWrittenBy(earlier)
                    || earlier.readsWhatIsWrittenBy(this)
                    || (keepsItsTurn() && earlier.keepsItsTurn());
        }

        boolean goesToMemory() {
            return op >= LOAD && op <= STORE_FRACTION;
        }

        boolean hasTarget() {
            return op >= JUMP_IF_EQUAL;
        }

        boolean endsBlock() {
            return op == HALT || hasTarget();
        }

        int target() {
            return Math.floorMod(n, PLACES);
        }

        int latency() {
            return LATENCY[op];
        }

        /** Those that can throw or go to memory never pass one another. */
        private boolean keepsItsTurn() {
            return op >= LOAD && op <= DIVIDE;
        }

        /** R0 is no register here: nothing is kept in it, so nothing waits for it. */
        private static int register(int kind, int number) {
            if (kind == NAMES_FRACTION) {
                return WHOLES + number % FRACTIONS;
            }
            return kind == NAMES_WHOLE && number != 0 ? number : NONE;
        }
    }

    /** Says when each instruction begins, and what it keeps busy for how long. */
    private static final class Clock {
        final int[] ready = new int[WHOLES + FRACTIONS];
        int began = NONE;
        private int dividerFree = 0;
        private int memoryFree = 0;
        private boolean afterWrongJump = false;

        void reset() {
            Arrays.fill(ready, 0);
            began = NONE;
            dividerFree = 0;
            memoryFree = 0;
            afterWrongJump = false;
        }

        void begin(Instruction it, boolean groupMissed, boolean lineMissed, boolean wrongJump) {
            int lineDelay = lineMissed ? LINE_DELAY : 0;
            int latency = it.latency() + lineDelay;
            began = beginning(it, latency, groupMissed);
            afterWrongJump = wrongJump;
            if (it.written != NONE) {
                ready[it.written] = began + latency;
            }
            if (it.op == DIVIDE) {
                dividerFree = began + DIVIDER_BUSY;
            }
            if (it.goesToMemory()) {
                memoryFree = began + MEMORY_BUSY + lineDelay;
            }
        }

        private int beginning(Instruction it, int latency, boolean groupMissed) {
            int time = began + 1 + (groupMissed ? GROUP_DELAY : 0) + (afterWrongJump ? WRONG_JUMP_DELAY : 0);
            time = Math.max(time, readyTime(it.firstRead));
            time = Math.max(time, readyTime(it.secondRead));
            if (it.op == DIVIDE) {
                time = Math.max(time, dividerFree);
            }
            if (it.goesToMemory()) {
                time = Math.max(time, memoryFree);
            }
            return Math.max(time, readyTime(it.written) - latency + 1);
        }

        /** Where there is no register to wait for, 0 is early enough never to matter. */
        private int readyTime(int register) {
            return register == NONE ? 0 : ready[register];
        }
    }

    /** Two places for groups of instructions. */
    private static final class CodeCache {
        private static final int GROUPS_KEPT = 2;

        int notFound = 0;
        private final int[] groups = new int[GROUPS_KEPT];

        CodeCache() {
            empty();
        }

        void empty() {
            Arrays.fill(groups, NONE);
            notFound = 0;
        }

        /** Answers whether the group was missing; it is in afterwards. */
        boolean misses(int group) {
            int place = group % GROUPS_KEPT;
            if (groups[place] == group) {
                return false;
            }
            groups[place] = group;
            notFound++;
            return true;
        }
    }

    /** Two sets of two places for lines of cells. */
    private static final class DataCache {
        private static final int SETS = 2;
        private static final int PLACES_A_SET = 2;

        int notFound = 0;
        private final int[] lines = new int[SETS * PLACES_A_SET];
        private final int[] latestUse = new int[SETS * PLACES_A_SET];
        private int uses = 0;

        DataCache() {
            empty();
        }

        void empty() {
            Arrays.fill(lines, NONE);
            Arrays.fill(latestUse, 0);
            uses = 0;
            notFound = 0;
        }

        /** Answers whether the line was missing; it is in afterwards, and the latest one used. */
        boolean misses(int line) {
            int first = line % SETS * PLACES_A_SET;
            int second = first + 1;
            uses++;
            if (lines[first] == line || lines[second] == line) {
                latestUse[lines[first] == line ? first : second] = uses;
                return false;
            }
            // A free place counts as used at 0, before all others, so it is taken first.
            int place = latestUse[first] <= latestUse[second] ? first : second;
            lines[place] = line;
            latestUse[place] = uses;
            notFound++;
            return true;
        }
    }

    /** Guesses whether a jump on a condition jumps, from what such jumps did before. */
    private static final class Predictor {
        private static final int COUNTERS = 8;
        private static final int AT_FIRST = 1;
        private static final int JUMPS_FROM = 2;
        private static final int HIGHEST = 3;

        int wrong = 0;
        private final int[] counters = new int[COUNTERS];

        Predictor() {
            reset();
        }

        void reset() {
            Arrays.fill(counters, AT_FIRST);
            wrong = 0;
        }

        /** Answers whether the guess for the jump at this place was wrong, and learns from it. */
        boolean guessesWrong(int place, boolean jumped) {
            int own = place % COUNTERS;
            boolean isWrong = (counters[own] >= JUMPS_FROM) != jumped;
            counters[own] = jumped ? Math.min(counters[own] + 1, HIGHEST) : Math.max(counters[own] - 1, 0);
            if (isWrong) {
                wrong++;
            }
            return isWrong;
        }
    }

    /** Puts the instructions of each block in the order in which they wait least. */
    private static final class Scheduler {
        private final Instruction[] old = new Instruction[PLACES];
        private final boolean[] leaders = new boolean[PLACES];
        private final int[] heights = new int[PLACES];

        /** For each place, the places that it must stay behind: a bit each, as there are but 24. */
        private final int[] behind = new int[PLACES];

        /** Answers how many instructions are at another place than before. */
        int reorder(Instruction[] program) {
            for (int i = 0; i < PLACES; i++) {
                old[i] = program[i];
            }
            findLeaders();
            int moved = 0;
            for (int from = 0; from < PLACES; from++) {
                if (leaders[from]) {
                    moved += reorderBlock(program, from, endOfBlock(from));
                }
            }
            return moved;
        }

        private void findLeaders() {
            for (int i = 0; i < PLACES; i++) {
                leaders[i] = i == 0 || old[i - 1].endsBlock();
            }
            for (int i = 0; i < PLACES; i++) {
                if (old[i].hasTarget()) {
                    leaders[old[i].target()] = true;
                }
            }
        }

        /** The first place behind the block; the block is empty if its leader ends it. */
        private int endOfBlock(int from) {
            int end = from;
            while (end < PLACES && !old[end].endsBlock() && (end == from || !leaders[end])) {
                end++;
            }
            return end;
        }

        private int reorderBlock(Instruction[] program, int from, int end) {
            findHeights(from, end);
            int left = 0;
            for (int i = from; i < end; i++) {
                left |= 1 << i;
            }
            int moved = 0;
            for (int place = from; place < end; place++) {
                int next = nextToPlace(from, end, left);
                left &= ~(1 << next);
                program[place] = old[next];
                if (next != place) {
                    moved++;
                }
            }
            return moved;
        }

        /** Goes from the last to the first, as a height is built on the heights of later ones. */
        private void findHeights(int from, int end) {
            for (int i = end - 1; i >= from; i--) {
                heights[i] = 0;
                behind[i] = 0;
                for (int later = i + 1; later < end; later++) {
                    if (old[later].mustStayBehind(old[i])) {
                        int wait = old[later].readsWhatIsWrittenBy(old[i]) ? old[i].latency() : 1;
                        heights[i] = Math.max(heights[i], heights[later] + wait);
                        behind[later] |= 1 << i;
                    }
                }
            }
        }

        /** The first one left need stay behind none that is left, so there is always one to answer. */
        private int nextToPlace(int from, int end, int left) {
            int best = NONE;
            for (int i = from; i < end; i++) {
                boolean may = (left & 1 << i) != 0 && (left & behind[i]) == 0;
                if (may && (best == NONE || heights[i] > heights[best])) {
                    best = i;
                }
            }
            return best == NONE ? from : best;
        }
    }
}
