import java.util.Arrays;

/** Acts that run step by step beside one another over locked cells, with a log that outlives falls. */
public final class ActHouse {
    public static final int NONE = -1;

    private static final int NO_VALUE = -2147483648;
    private static final int CELLS = 24;
    private static final int COUNTERS = 8;
    private static final int PROGRAMS = 8;
    private static final int CLASSES = 4;
    private static final int RANKS = 10;
    private static final int MOST_STEPS = 12;
    private static final int MOST_ACTS = 80;
    private static final int MOST_OF_CLASS = 9;
    private static final int MOST_BEGUN = CLASSES * MOST_OF_CLASS;
    private static final int FIRST_LIMIT = 3;
    private static final int LOWEST_FLOOR = -1000;
    private static final int MOST_TICKS_AT_ONCE = 200;
    private static final int LAST_TICK = 5000;
    private static final int KEEP_EVERY = 4;
    private static final int REGISTER_BOUND = 1000000;
    private static final int ZERO_OF_B = 50;

    private static final int READ = 0;
    private static final int SET = 1;
    private static final int ADD = 2;
    private static final int WRITE = 3;
    private static final int SUM = 4;
    private static final int CHECK = 5;
    private static final int HOT = 6;
    private static final int QUEUE = 7;
    private static final int SKIP = 8;

    private static final int WAITS = 0;
    private static final int BEGUN = 1;
    private static final int DONE = 2;
    private static final int ANSWERED = 3;
    private static final int STOPPED = 4;

    private static final int FREE = 0;
    private static final int TO_READ = 1;
    private static final int TO_WRITE = 2;

    private static final int ENTRY_BEGUN = 0;
    private static final int ENTRY_WRITE = 1;
    private static final int ENTRY_DONE = 2;
    private static final int ENTRY_STOPPED = 3;
    private static final int ENTRY_UNDONE = 4;

    private final int[] programSteps = new int[PROGRAMS * MOST_STEPS];
    private final int[] programLengths = new int[PROGRAMS];
    private final int[] limits = new int[CLASSES];
    private final int[] floors = new int[COUNTERS];
    private final int[] values = new int[CELLS + COUNTERS];
    private final Act[] acts = new Act[MOST_ACTS];
    private final int[] order = new int[MOST_ACTS];
    private final int[] doneRow = new int[MOST_ACTS];
    private final int[] running = new int[MOST_BEGUN];
    private final int[] begunOfClass = new int[CLASSES];
    private final LogBook book = new LogBook();
    private final Waits waits = new Waits();
    private int actCount;
    private int doneCount;
    private int runningCount;
    private int now;
    private int rings;
    private int falls;

    public ActHouse() {
        Arrays.fill(limits, FIRST_LIMIT);
    }

    public boolean program(int program) {
        if (!isBelow(program, PROGRAMS)) {
            return false;
        }
        programLengths[program] = 0;
        return true;
    }

    public int step(int program, int step) {
        if (!isBelow(program, PROGRAMS) || !isStep(step)) {
            return NONE;
        }
        int length = programLengths[program];
        if (length >= MOST_STEPS) {
            return NONE;
        }
        programSteps[program * MOST_STEPS + length] = step;
        programLengths[program] = length + 1;
        return length + 1;
    }

    public int act(int program, int kind, int rank) {
        if (!isBelow(program, PROGRAMS) || !isBelow(kind, CLASSES) || !isBelow(rank, RANKS)) {
            return NONE;
        }
        return admit(program, kind, rank, NONE);
    }

    public boolean limit(int kind, int many) {
        if (!isBelow(kind, CLASSES) || many < 0 || many > MOST_OF_CLASS) {
            return false;
        }
        limits[kind] = many;
        return true;
    }

    public boolean floor(int counter, int floor) {
        if (!isBelow(counter, COUNTERS) || floor < LOWEST_FLOOR || floor > 0) {
            return false;
        }
        if (leastToCome(counter) < floor) {
            return false;
        }
        floors[counter] = floor;
        return true;
    }

    public int go(int n) {
        if (n < 0 || n > MOST_TICKS_AT_ONCE) {
            return NONE;
        }
        for (int i = 0; i < n && now < LAST_TICK; i++) {
            passTick();
        }
        return now;
    }

    public int fall(int k) {
        if (k < 0 || k > book.size - book.kept) {
            return NONE;
        }
        book.cut(book.kept + k);
        book.keepAll();
        falls++;
        int undone = 0;
        // From the last act down: an act's fate hangs on its parent's state before the fall, and parents come first.
        for (int number = actCount - 1; number >= 0; number--) {
            if (isLost(number)) {
                undone++;
            }
            fallAct(number);
        }
        dropUndoneFromRow();
        retellValues();
        return undone;
    }

    public int told(int act, int what) {
        if (!isBelow(act, actCount)) {
            return NONE;
        }
        Act one = acts[act];
        boolean begun = one.state == BEGUN;
        switch (what) {
            case 0: return one.state;
            case 1: return one.program;
            case 2: return one.kind;
            case 3: return one.rank;
            case 4: return begun ? one.at : NONE;
            case 5: return begun && one.heldTick == now - 1 ? 1 : 0;
            case 6: return one.doneTick;
            case 7: return one.timesUndone;
            case 8: return one.parent;
            case 9: return one.begunTick;
            default: return NONE;
        }
    }

    public int register(int act) {
        if (!isBelow(act, actCount) || acts[act].state != BEGUN) {
            return NO_VALUE;
        }
        return acts[act].register;
    }

    public int holds(int act, int cell) {
        if (!isBelow(act, actCount) || !isBelow(cell, CELLS)) {
            return NONE;
        }
        return acts[act].state == BEGUN ? acts[act].locks[cell] : FREE;
    }

    public int value(int cell, int tick) {
        if (!isBelow(cell, CELLS + COUNTERS) || tick < 0 || tick > now) {
            return NO_VALUE;
        }
        if (tick == now) {
            return values[cell];
        }
        int value = 0;
        for (int i = 0; i < doneCount; i++) {
            Act act = acts[doneRow[i]];
            if (act.doneTick <= tick) {
                value = act.valueAfter(cell, value);
            }
        }
        return value;
    }

    public int done(int i) {
        return isBelow(i, doneCount) ? doneRow[i] : NONE;
    }

    public int log(int i, int what) {
        return book.tell(i, what);
    }

    public int count(int what) {
        switch (what) {
            case 0: return now;
            case 1: return actCount;
            case 2: return book.size;
            case 3: return book.kept;
            case 4: return countState(WAITS);
            case 5: return countState(BEGUN);
            case 6: return doneCount;
            case 7: return rings;
            case 8: return falls;
            default: return NONE;
        }
    }

    private static boolean isBelow(int number, int bound) {
        return number >= 0 && number < bound;
    }

    private static int opOf(int step) {
        return step / 10000;
    }

    private static int aOf(int step) {
        return step / 100 % 100;
    }

    private static int bOf(int step) {
        return step % 100;
    }

    private static boolean isStep(int step) {
        if (step < 0 || opOf(step) > SKIP) {
            return false;
        }
        switch (opOf(step)) {
            case READ:
            case WRITE:
            case SUM:
                return aOf(step) < CELLS;
            case HOT:
                return aOf(step) < COUNTERS;
            case QUEUE:
                return aOf(step) < PROGRAMS;
            default:
                return true;
        }
    }

    private static boolean usesCell(int step) {
        int op = opOf(step);
        return op == READ || op == WRITE || op == SUM;
    }

    private int countState(int state) {
        int many = 0;
        for (int number = 0; number < actCount; number++) {
            if (acts[number].state == state) {
                many++;
            }
        }
        return many;
    }

    /** An act more, placed behind all of its rank; NONE if there is no room. */
    private int admit(int program, int kind, int rank, int parent) {
        if (actCount >= MOST_ACTS) {
            return NONE;
        }
        int number = actCount;
        acts[number] = new Act(program, kind, rank, parent);
        int place = number;
        while (place > 0 && acts[order[place - 1]].rank > rank) {
            order[place] = order[place - 1];
            place--;
        }
        order[place] = number;
        actCount++;
        return number;
    }

    private void passTick() {
        stepBegun();
        breakRings();
        beginWaiting();
        if (now % KEEP_EVERY == KEEP_EVERY - 1) {
            answerDone();
        }
        now++;
    }

    private void stepBegun() {
        gatherRunning();
        for (int i = 0; i < runningCount; i++) {
            takeStep(running[i]);
        }
    }

    /** Keeps the row apart from the order, for acts that come in this tick shift places there. */
    private void gatherRunning() {
        runningCount = 0;
        for (int i = 0; i < actCount && runningCount < MOST_BEGUN; i++) {
            if (acts[order[i]].state == BEGUN) {
                running[runningCount] = order[i];
                runningCount++;
            }
        }
    }

    private void takeStep(int number) {
        Act act = acts[number];
        if (act.hasStep()) {
            int step = act.steps[act.at];
            if (!canBe(number, step)) {
                act.heldTick = now;
                return;
            }
            act.at++;
            if (!perform(number, step)) {
                stopAct(number);
                return;
            }
        }
        if (!act.hasStep()) {
            finishAct(number);
        }
    }

    private boolean canBe(int number, int step) {
        if (opOf(step) == HOT) {
            int counter = aOf(step);
            int more = bOf(step) - ZERO_OF_B;
            return more >= 0 || leastToCome(counter) + more >= floors[counter];
        }
        if (!usesCell(step)) {
            return true;
        }
        for (int i = 0; i < runningCount; i++) {
            if (running[i] != number && blocks(acts[running[i]], step)) {
                return false;
            }
        }
        return true;
    }

    /** Whether an act's locks keep another one from a step at a cell. */
    private static boolean blocks(Act holder, int step) {
        if (holder.state != BEGUN) {
            return false;
        }
        int lock = holder.locks[aOf(step)];
        return opOf(step) == WRITE ? lock != FREE : lock == TO_WRITE;
    }

    /** A counter's value if only what is below 0 of all that begun acts are to give it came. */
    private int leastToCome(int counter) {
        int least = values[CELLS + counter];
        for (int number = 0; number < actCount; number++) {
            if (acts[number].state == BEGUN) {
                least += acts[number].takes[counter];
            }
        }
        return least;
    }

    /** Does a step that can be; false if it stops the act. */
    private boolean perform(int number, int step) {
        Act act = acts[number];
        int a = aOf(step);
        int b = bOf(step);
        switch (opOf(step)) {
            case READ:
                act.lockToRead(a);
                return act.load(seenBy(act, a));
            case SET:
                return act.load(b - ZERO_OF_B);
            case ADD:
                return act.load(act.register + b - ZERO_OF_B);
            case WRITE:
                act.put(a);
                book.write(ENTRY_WRITE, number, a, now);
                return true;
            case SUM:
                act.lockToRead(a);
                return act.load(act.register + seenBy(act, a));
            case CHECK:
                return act.register >= 0;
            case HOT:
                act.give(a, b - ZERO_OF_B);
                return true;
            case QUEUE:
                act.enqueue(a);
                return true;
            case SKIP:
                act.at += act.register < 0 ? b : 0;
                return true;
            default:
                return true;
        }
    }

    private int seenBy(Act act, int cell) {
        return act.valueAfter(cell, values[cell]);
    }

    private void stopAct(int number) {
        Act act = acts[number];
        act.leave(STOPPED);
        act.entry = book.write(ENTRY_STOPPED, number, NONE, now);
    }

    private void finishAct(int number) {
        Act act = acts[number];
        act.state = DONE;
        act.doneTick = now;
        act.entry = book.write(ENTRY_DONE, number, NONE, now);
        if (doneCount < MOST_ACTS) {
            doneRow[doneCount] = number;
            doneCount++;
        }
        tellValues(act);
        for (int i = 0; i < act.queueLength; i++) {
            admit(act.queue[i], act.kind, act.rank, number);
        }
    }

    private void tellValues(Act act) {
        for (int place = 0; place < CELLS + COUNTERS; place++) {
            values[place] = act.valueAfter(place, values[place]);
        }
    }

    private void breakRings() {
        if (!drawWaits()) {
            return;
        }
        // Each round undoes one act, so there are no more rounds than acts.
        for (int round = 0; round < runningCount; round++) {
            int slot = lastBegunInRing();
            if (slot == NONE) {
                return;
            }
            undoInRing(running[slot]);
            waits.remove(slot);
        }
    }

    /** Draws who waits for whom, by slots of the running row; false if nobody waits. */
    private boolean drawWaits() {
        waits.clear(runningCount);
        boolean any = false;
        for (int i = 0; i < runningCount; i++) {
            Act act = acts[running[i]];
            if (act.state != BEGUN || act.heldTick != now || !act.hasStep() || !usesCell(act.steps[act.at])) {
                continue;
            }
            for (int j = 0; j < runningCount; j++) {
                if (j != i && blocks(acts[running[j]], act.steps[act.at])) {
                    waits.add(i, j);
                    any = true;
                }
            }
        }
        return any;
    }

    private int lastBegunInRing() {
        waits.close();
        int last = NONE;
        for (int slot = 0; slot < runningCount; slot++) {
            if (waits.isInRing(slot) && (last == NONE || isBegunLater(running[slot], running[last]))) {
                last = slot;
            }
        }
        return last;
    }

    private boolean isBegunLater(int number, int other) {
        int tick = acts[number].begunTick;
        int otherTick = acts[other].begunTick;
        return tick != otherTick ? tick > otherTick : number > other;
    }

    private void undoInRing(int number) {
        acts[number].undo();
        book.write(ENTRY_UNDONE, number, NONE, now);
        rings++;
    }

    private void beginWaiting() {
        countBegunOfClasses();
        for (int i = 0; i < actCount; i++) {
            Act act = acts[order[i]];
            int length = programLengths[act.program];
            if (act.state == WAITS && length > 0 && begunOfClass[act.kind] < limits[act.kind]) {
                act.begin(programSteps, length, now);
                begunOfClass[act.kind]++;
                book.write(ENTRY_BEGUN, order[i], NONE, now);
            }
        }
    }

    private void countBegunOfClasses() {
        Arrays.fill(begunOfClass, 0);
        for (int number = 0; number < actCount; number++) {
            if (acts[number].state == BEGUN) {
                begunOfClass[acts[number].kind]++;
            }
        }
    }

    private void answerDone() {
        book.keepAll();
        for (int i = 0; i < doneCount; i++) {
            acts[doneRow[i]].state = ANSWERED;
        }
    }

    /** Whether an act is done, but its entry is gone from the log. */
    private boolean isLost(int number) {
        return acts[number].state == DONE && acts[number].entry >= book.size;
    }

    private void fallAct(int number) {
        Act act = acts[number];
        if (act.parent != NONE && isLost(act.parent)) {
            act.leave(STOPPED);
        } else if (act.state == BEGUN || isLost(number)) {
            act.undo();
        } else if (act.state == STOPPED && act.entry >= book.size) {
            act.leave(WAITS);
        } else if (act.state == DONE) {
            act.state = ANSWERED;
        }
    }

    private void dropUndoneFromRow() {
        int left = 0;
        for (int i = 0; i < doneCount; i++) {
            if (acts[doneRow[i]].state == ANSWERED) {
                doneRow[left] = doneRow[i];
                left++;
            }
        }
        doneCount = left;
    }

    private void retellValues() {
        Arrays.fill(values, 0);
        for (int i = 0; i < doneCount; i++) {
            tellValues(acts[doneRow[i]]);
        }
    }

    /** An act with the rows of its latest run; a done act's rows stay, for they tell what it changed. */
    private static final class Act {
        final int program;
        final int kind;
        final int rank;
        final int parent;
        final int[] steps = new int[MOST_STEPS];
        final int[] locks = new int[CELLS];
        final int[] written = new int[CELLS];
        final int[] gives = new int[COUNTERS];
        final int[] takes = new int[COUNTERS];
        final int[] queue = new int[MOST_STEPS];
        int length;
        int queueLength;
        int state = WAITS;
        int register;
        int at;
        int heldTick = NONE;
        int begunTick = NONE;
        int doneTick = NONE;
        int entry = NONE;
        int timesUndone;

        Act(int program, int kind, int rank, int parent) {
            this.program = program;
            this.kind = kind;
            this.rank = rank;
            this.parent = parent;
        }

        void begin(int[] programSteps, int programLength, int tick) {
            System.arraycopy(programSteps, program * MOST_STEPS, steps, 0, programLength);
            length = programLength;
            state = BEGUN;
            register = 0;
            at = 0;
            begunTick = tick;
        }

        boolean hasStep() {
            return at >= 0 && at < length;
        }

        boolean load(int number) {
            if (number > REGISTER_BOUND || number < -REGISTER_BOUND) {
                return false;
            }
            register = number;
            return true;
        }

        void lockToRead(int cell) {
            if (locks[cell] == FREE) {
                locks[cell] = TO_READ;
            }
        }

        void put(int cell) {
            locks[cell] = TO_WRITE;
            written[cell] = register;
        }

        /** What is below 0 is kept apart too: what is above 0 may never come, so it can't make up for it. */
        void give(int counter, int more) {
            gives[counter] += more;
            takes[counter] += Math.min(more, 0);
        }

        void enqueue(int queued) {
            if (queueLength < MOST_STEPS) {
                queue[queueLength] = queued;
                queueLength++;
            }
        }

        /** The value of a cell or counter once this act's changes are laid over it. */
        int valueAfter(int place, int before) {
            if (place < CELLS) {
                return locks[place] == TO_WRITE ? written[place] : before;
            }
            return before + gives[place - CELLS];
        }

        void undo() {
            leave(WAITS);
            timesUndone++;
        }

        /** Into a state in which nothing of its run counts. */
        void leave(int newState) {
            state = newState;
            doneTick = NONE;
            entry = NONE;
            queueLength = 0;
            Arrays.fill(locks, FREE);
            Arrays.fill(gives, 0);
            Arrays.fill(takes, 0);
        }
    }

    /** The log: an entry is one number, so that long runs of rings stay small. */
    private static final class LogBook {
        private static final int FIRST_ROOM = 256;
        private static final int MOST_ENTRIES = 1048576;

        int[] entries = new int[FIRST_ROOM];
        int size;
        int kept;

        /** Writes an entry and answers where; the bound is above what all ticks together can write. */
        int write(int kind, int act, int cell, int tick) {
            if (size >= MOST_ENTRIES) {
                return NONE;
            }
            if (size >= entries.length) {
                entries = Arrays.copyOf(entries, entries.length * 2);
            }
            entries[size] = tick << 15 | cell + 1 << 10 | act << 3 | kind;
            size++;
            return size - 1;
        }

        void keepAll() {
            kept = size;
        }

        void cut(int newSize) {
            if (newSize >= 0 && newSize <= size) {
                size = newSize;
            }
        }

        int tell(int i, int what) {
            if (i < 0 || i >= size) {
                return NONE;
            }
            int entry = entries[i];
            switch (what) {
                case 0: return entry & 7;
                case 1: return entry >> 3 & 127;
                case 2: return (entry >> 10 & 31) - 1;
                case 3: return entry >> 15;
                default: return NONE;
            }
        }
    }

    /** Who waits for whom among the slots of the running row, a bit for each slot waited for. */
    private static final class Waits {
        final long[] direct = new long[MOST_BEGUN];
        final long[] reach = new long[MOST_BEGUN];
        int many;

        void clear(int newMany) {
            many = Math.min(newMany, MOST_BEGUN);
            Arrays.fill(direct, 0L);
        }

        void add(int from, int to) {
            direct[from] |= 1L << to;
        }

        /** Others may wait for it still, but no ring goes through one that waits for nobody. */
        void remove(int slot) {
            direct[slot] = 0L;
        }

        /** Finds whom each slot waits for by others too. */
        void close() {
            System.arraycopy(direct, 0, reach, 0, many);
            for (int by = 0; by < many; by++) {
                for (int from = 0; from < many; from++) {
                    if ((reach[from] >> by & 1L) != 0L) {
                        reach[from] |= reach[by];
                    }
                }
            }
        }

        boolean isInRing(int slot) {
            return (reach[slot] >> slot & 1L) != 0L;
        }
    }
}
