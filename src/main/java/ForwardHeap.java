/**
 * A heap of regions whose objects move while they are used. Marking, moving and updating go on
 * in units between the calls of who uses it; regions with little in them are emptied.
 */
public final class ForwardHeap {
    public static final int NONE = -1;

    private static final int REGISTERS = 10;
    private static final int MOST_FIELDS = 20;
    private static final int HEAD_WORDS = 2;
    private static final int REGION_WORDS = 128;
    private static final int LEAST_REGIONS = 3;
    private static final int MOST_REGIONS = 16;
    private static final int MOST_UNITS_A_CALL = 10000;

    /** Far above the units of any cycle: every object marked and moved, every region updated. */
    private static final int UNITS_BEYOND_ANY_CYCLE = 1000000;

    private static final int NO_CYCLE = 0;
    private static final int MARKING = 1;
    private static final int MOVING = 2;
    private static final int UPDATING = 3;

    private static final int FREE = 0;
    private static final int ACTIVE = 1;
    private static final int TARGET = 2;
    private static final int CLOSED = 3;
    private static final int IN_SET = 4;

    private final Collector collector;
    private final Memory memory;

    public ForwardHeap(int regions, int threshold) {
        collector = new Collector(
            within(regions, LEAST_REGIONS, MOST_REGIONS), within(threshold, 0, REGION_WORDS));
        memory = collector.memory;
    }

    public int alloc(int register, int fields, int tag)
            throws IndexOutOfBoundsException, IllegalArgumentException {
        checkRegister(register);
        if (fields < 0 || fields > MOST_FIELDS) {
            throw new IllegalArgumentException("an object has 0 to 20 fields");
        }
        int words = fields + HEAD_WORDS;
        Region home = memory.activeWithRoom(words);
        if (home == null) {
            collector.collectWhole();
            home = memory.activeWithRoom(words);
        }
        if (home == null) {
            return NONE;
        }
        HeapObject made = new HeapObject(home, fields, tag);
        home.append(made);
        collector.welcome(made);
        memory.registers[register] = made;
        return placeOf(made);
    }

    public void move(int to, int from) throws IndexOutOfBoundsException {
        checkRegister(to);
        checkRegister(from);
        memory.registers[to] = memory.registers[from];
    }

    public boolean drop(int register) throws IndexOutOfBoundsException {
        checkRegister(register);
        boolean held = memory.registers[register] != null;
        memory.registers[register] = null;
        return held;
    }

    public int read(int to, int from, int i)
            throws IndexOutOfBoundsException, IllegalStateException {
        checkRegister(to);
        HeapObject holder = objectIn(from);
        checkField(holder, i);
        HeapObject value = holder.fields[i];
        memory.registers[to] = value;
        return tagOf(value);
    }

    public int write(int register, int i, int from)
            throws IndexOutOfBoundsException, IllegalStateException {
        checkRegister(from);
        HeapObject holder = objectIn(register);
        checkField(holder, i);
        HeapObject before = holder.fields[i];
        collector.prepareWrite(holder, before);
        holder.fields[i] = memory.registers[from];
        return tagOf(before);
    }

    public int tag(int register) throws IndexOutOfBoundsException, IllegalStateException {
        return objectIn(register).tag;
    }

    public boolean same(int a, int b) throws IndexOutOfBoundsException {
        checkRegister(a);
        checkRegister(b);
        return memory.registers[a] == memory.registers[b];
    }

    public int where(int register) throws IndexOutOfBoundsException {
        checkRegister(register);
        return placeOf(memory.registers[register]);
    }

    public int begin() {
        if (collector.phase != NO_CYCLE) {
            return 0;
        }
        collector.startCycle();
        return 1;
    }

    public int work(int n) throws IllegalArgumentException {
        if (n < 0 || n > MOST_UNITS_A_CALL) {
            throw new IllegalArgumentException("a call works 0 to 10000 units");
        }
        collector.runUnits(n);
        return collector.phase;
    }

    public int collect() {
        collector.collectWhole();
        return memory.countFree();
    }

    public int region(int i, int what) throws IndexOutOfBoundsException {
        if (i < 0 || i >= memory.regions.length) {
            throw new IndexOutOfBoundsException("no such region");
        }
        Region asked = memory.regions[i];
        switch (what) {
            case 0:
                return asked.kind;
            case 1:
                return asked.used;
            case 2:
                return asked.seenWords(collector.cycle);
            default:
                return NONE;
        }
    }

    public int count(int what) {
        switch (what) {
            case 0:
                return collector.movedInAll;
            case 1:
                return collector.failedInAll;
            case 2:
                return collector.waiting.size;
            default:
                return NONE;
        }
    }

    private static int within(int value, int least, int most) {
        return Math.max(least, Math.min(most, value));
    }

    private static void checkRegister(int register) throws IndexOutOfBoundsException {
        if (register < 0 || register >= REGISTERS) {
            throw new IndexOutOfBoundsException("no such register");
        }
    }

    private static void checkField(HeapObject holder, int i) throws IndexOutOfBoundsException {
        if (i < 0 || i >= holder.fields.length) {
            throw new IndexOutOfBoundsException("no such field");
        }
    }

    private HeapObject objectIn(int register)
            throws IndexOutOfBoundsException, IllegalStateException {
        checkRegister(register);
        HeapObject held = memory.registers[register];
        if (held == null) {
            throw new IllegalStateException("the register holds nothing");
        }
        return held;
    }

    private static int tagOf(HeapObject object) {
        return object == null ? 0 : object.tag;
    }

    private static int placeOf(HeapObject object) {
        return object == null ? NONE : REGION_WORDS * object.home.number + object.offset;
    }

    /**
     * An object of the heap. Registers and fields hold the object itself, and it alone tells where
     * it lies: so a move is seen by all who hold it at once.
     */
    private static final class HeapObject {
        final int tag;
        final HeapObject[] fields;
        Region home;
        int offset;
        /** The number of the cycle that saw it last: so a new cycle need not go over all objects. */
        int seenIn;
        /** The number of the cycle in which it failed last. */
        int failedIn;
        HeapObject nextWaiting;

        HeapObject(Region home, int fieldCount, int tag) {
            this.home = home;
            this.tag = tag;
            fields = new HeapObject[fieldCount];
            seenIn = NONE;
            failedIn = NONE;
        }

        int words() {
            return fields.length + HEAD_WORDS;
        }
    }

    private static final class Region {
        final int number;
        /** At each word the object that begins there; null once it has moved away. */
        final HeapObject[] starts;
        int kind;
        int used;
        /** Words that moving has gone past: nothing in front of them can still have to move. */
        int passed;
        boolean keepsFailed;

        Region(int number) {
            this.number = number;
            starts = new HeapObject[REGION_WORDS];
            kind = FREE;
        }

        boolean hasRoom(int words) {
            return used + words <= REGION_WORDS;
        }

        void append(HeapObject object) {
            object.home = this;
            object.offset = used;
            starts[used] = object;
            used += object.words();
        }

        int seenWords(int cycle) {
            int words = 0;
            for (int at = 0; at < used; at++) {
                HeapObject object = starts[at];
                if (object != null && object.seenIn == cycle) {
                    words += object.words();
                }
            }
            return words;
        }

        void enterSet() {
            kind = IN_SET;
            passed = 0;
            keepsFailed = false;
        }

        HeapObject nextToMove(int cycle) {
            for (; passed < used; passed++) {
                HeapObject object = starts[passed];
                if (object != null && object.seenIn == cycle && object.failedIn != cycle) {
                    return object;
                }
            }
            return null;
        }

        void leaveSet() {
            if (keepsFailed) {
                kind = CLOSED;
                return;
            }
            for (int at = 0; at < used; at++) {
                starts[at] = null;
            }
            kind = FREE;
            used = 0;
        }
    }

    /** The registers and the regions, with the one that new objects and the one that moved ones go to. */
    private static final class Memory {
        final HeapObject[] registers;
        final Region[] regions;
        Region active;
        Region target;

        Memory(int regionCount) {
            registers = new HeapObject[REGISTERS];
            regions = new Region[regionCount];
            for (int i = 0; i < regionCount; i++) {
                regions[i] = new Region(i);
            }
        }

        Region leastFree() {
            for (Region region : regions) {
                if (region.kind == FREE) {
                    return region;
                }
            }
            return null;
        }

        int countFree() {
            int free = 0;
            for (Region region : regions) {
                if (region.kind == FREE) {
                    free++;
                }
            }
            return free;
        }

        /** Null when no region is active then: the one before is closed even so. */
        Region activeWithRoom(int words) {
            if (active != null && !active.hasRoom(words)) {
                active.kind = CLOSED;
                active = null;
            }
            if (active == null) {
                active = leastFree();
                if (active != null) {
                    active.kind = ACTIVE;
                }
            }
            return active;
        }

        /** Null when there is none: the target before stays, as a smaller object may still fit. */
        Region targetWithRoom(int words) {
            if (target != null && target.hasRoom(words)) {
                return target;
            }
            Region free = leastFree();
            if (free != null) {
                closeTarget();
                free.kind = TARGET;
                target = free;
            }
            return free;
        }

        void closeTarget() {
            if (target != null) {
                target.kind = CLOSED;
                target = null;
            }
        }
    }

    /** The objects that wait to be marked, chained through themselves: a row that is never full. */
    private static final class WaitingRow {
        HeapObject first;
        HeapObject last;
        int size;

        void append(HeapObject object) {
            if (last == null) {
                first = object;
            } else {
                last.nextWaiting = object;
            }
            last = object;
            size++;
        }

        HeapObject takeFirst() {
            HeapObject taken = first;
            if (taken == null) {
                return null;
            }
            first = taken.nextWaiting;
            if (first == null) {
                last = null;
            }
            taken.nextWaiting = null;
            size--;
            return taken;
        }
    }

    private static final class Collector {
        final Memory memory;
        final int threshold;
        final WaitingRow waiting;
        int phase;
        int cycle;
        int nextToUpdate;
        int movedInAll;
        int failedInAll;

        Collector(int regionCount, int threshold) {
            memory = new Memory(regionCount);
            this.threshold = threshold;
            waiting = new WaitingRow();
        }

        void startCycle() {
            phase = MARKING;
            cycle++;
            for (HeapObject held : memory.registers) {
                see(held);
            }
        }

        void collectWhole() {
            runUnits(UNITS_BEYOND_ANY_CYCLE);
            startCycle();
            runUnits(UNITS_BEYOND_ANY_CYCLE);
        }

        void runUnits(int most) {
            for (int done = 0; done < most && phase != NO_CYCLE; done++) {
                switch (phase) {
                    case MARKING:
                        markNext();
                        break;
                    case MOVING:
                        moveNext();
                        break;
                    default:
                        updateNext();
                        break;
                }
            }
        }

        /** What comes while a cycle goes on is kept by it, and has no fields that it could miss. */
        void welcome(HeapObject made) {
            if (phase != NO_CYCLE) {
                made.seenIn = cycle;
            }
        }

        /** What the cycle must do before a field of an object becomes another one. */
        void prepareWrite(HeapObject holder, HeapObject before) {
            if (phase == MARKING) {
                see(before);
            } else if (phase == MOVING && mayMove(holder)) {
                moveOrFail(holder);
            }
        }

        private void see(HeapObject object) {
            if (object != null && object.seenIn != cycle) {
                object.seenIn = cycle;
                waiting.append(object);
            }
        }

        private void markNext() {
            HeapObject marked = waiting.takeFirst();
            if (marked == null) {
                chooseSet();
                phase = MOVING;
                return;
            }
            for (HeapObject value : marked.fields) {
                see(value);
            }
        }

        private void chooseSet() {
            for (Region region : memory.regions) {
                if (region.kind == CLOSED && region.used - region.seenWords(cycle) > threshold) {
                    region.enterSet();
                }
            }
        }

        private void moveNext() {
            for (Region region : memory.regions) {
                HeapObject object = region.kind == IN_SET ? region.nextToMove(cycle) : null;
                if (object != null) {
                    moveOrFail(object);
                    return;
                }
            }
            phase = UPDATING;
            nextToUpdate = 0;
        }

        private boolean mayMove(HeapObject object) {
            return object.home.kind == IN_SET && object.failedIn != cycle;
        }

        private void moveOrFail(HeapObject object) {
            Region from = object.home;
            Region to = memory.targetWithRoom(object.words());
            if (to == null) {
                object.failedIn = cycle;
                from.keepsFailed = true;
                failedInAll++;
                return;
            }
            from.starts[object.offset] = null;
            to.append(object);
            movedInAll++;
        }

        /** No field has to be rewritten, as fields hold objects and no places: it only takes its time. */
        private void updateNext() {
            nextToUpdate++;
            if (nextToUpdate >= memory.regions.length) {
                endCycle();
            }
        }

        private void endCycle() {
            for (Region region : memory.regions) {
                if (region.kind == IN_SET) {
                    region.leaveSet();
                }
            }
            memory.closeTarget();
            phase = NO_CYCLE;
        }
    }
}
