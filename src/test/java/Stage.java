/**
 * Heaps in each state that a refused call can meet, made anew and alike at every asking. In all of them
 * register 0 holds an object of 20 fields (tag 5), of which field 0 and field 19 hold something, register 1
 * one of no fields (tag 6), register 8 one of 20 fields, and registers 2 to 7 and 9 hold nothing.
 */
enum Stage {
    QUIET(0), MARKING(1), MARKED(1), MOVING(2), MOVED(2), FAILED(2), UPDATING(3), LAST_REGION(3), ENDED(0), FULL(0);

    final int phase;

    Stage(int phase) {
        this.phase = phase;
    }

    ForwardHeap make() {
        switch (this) {
            case MARKING:
                return after(roomy(), 0);
            case MARKED:
                return after(roomy(), 4);
            case MOVING:
                return after(roomy(), 5);
            case MOVED:
                return after(roomy(), 6);
            case FAILED:
                return after(crowded(), 6);
            case UPDATING:
                return after(roomy(), 9);
            case LAST_REGION:
                return after(roomy(), 12);
            case ENDED:
                return after(roomy(), 13);
            case FULL:
                return full();
            default:
                return roomy();
        }
    }

    /** Region 0 is closed with 88 words of garbage, region 1 is active, 2 and 3 are free. */
    private static ForwardHeap roomy() {
        return started(4);
    }

    /** Region 1 is closed with garbage, too, and region 2, the last one, is active. */
    private static ForwardHeap crowded() {
        ForwardHeap heap = started(3);
        for (int k = 0; k < 5; k++) {
            heap.alloc(8, 20, 8);
        }
        return heap;
    }

    /** None is free, and the active one has no room for an object of 20 fields. */
    private static ForwardHeap full() {
        ForwardHeap heap = crowded();
        for (int k = 0; k < 4; k++) {
            heap.alloc(8, 20, 8);
        }
        return heap;
    }

    private static ForwardHeap started(int regions) {
        ForwardHeap heap = new ForwardHeap(regions, 0);
        heap.alloc(0, 20, 5);
        heap.alloc(1, 0, 6);
        heap.alloc(2, 3, 7);
        heap.write(0, 0, 2);
        heap.write(0, 19, 1);
        heap.drop(2);
        for (int k = 0; k < 5; k++) {
            heap.alloc(8, 20, 8);
        }
        return heap;
    }

    private static ForwardHeap after(ForwardHeap heap, int units) {
        heap.begin();
        heap.work(units);
        return heap;
    }
}
