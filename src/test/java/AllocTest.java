/** Promise 2: where new objects come to lie, and what is done when there is no room. */
public final class AllocTest {
    private static final Check CHECK = new Check();

    public static void main(String[] args) {
        oneBehindTheOther();
        fullRegionIsClosed();
        collectionMakesRoom();
        registerIsHeldUntilThen();
        noRoomAtAll();
        goingCycleIsEndedFirst();
        seenWhileACycleGoesOn();
        CHECK.end();
    }

    private static void oneBehindTheOther() {
        ForwardHeap heap = new ForwardHeap(3, 0);
        CHECK.due("0 fields", heap.alloc(0, 0, 1), 0);
        CHECK.due("20 fields", heap.alloc(0, 20, 2), 2);
        CHECK.due("5 fields", heap.alloc(9, 5, 3), 24);
        CHECK.due("used", heap.region(0, 1), 31);
        CHECK.due("active", heap.region(0, 0), 1);
        CHECK.due("the register holds the later one", heap.tag(0), 2);
    }

    private static void fullRegionIsClosed() {
        ForwardHeap heap = new ForwardHeap(3, 0);
        for (int k = 0; k < 5; k++) {
            heap.alloc(k, 20, k);
        }
        CHECK.due("fits just", heap.alloc(5, 16, 5), 110);
        CHECK.due("full and active", heap.region(0, 0), 1);
        CHECK.due("full", heap.region(0, 1), 128);
        CHECK.due("goes into the next", heap.alloc(6, 0, 6), 128);
        CHECK.due("closed", heap.region(0, 0), 3);
        CHECK.due("the next is active", heap.region(1, 0), 1);
        CHECK.due("the next but one is free", heap.region(2, 0), 0);
    }

    private static void collectionMakesRoom() {
        ForwardHeap heap = new ForwardHeap(3, 0);
        fill(heap, 3, 0);
        heap.drop(0);
        CHECK.due("all is emptied", heap.alloc(0, 20, 1), 0);
        CHECK.due("region 0", heap.region(0, 0), 1);
        CHECK.due("region 1", heap.region(1, 0), 0);
        CHECK.due("region 2", heap.region(2, 0), 0);
        CHECK.due("none goes on", heap.work(0), 0);
        CHECK.due("a new one was not seen", heap.region(0, 2), 0);
    }

    /** What the register held is in the way of the collection: it fails, and its region stays. */
    private static void registerIsHeldUntilThen() {
        ForwardHeap heap = new ForwardHeap(3, 0);
        fill(heap, 3, 0);
        CHECK.due("new place", heap.alloc(0, 20, 1), 0);
        CHECK.due("it failed", heap.count(1), 1);
        CHECK.due("region 2 is closed", heap.region(2, 0), 3);
        CHECK.due("it was seen", heap.region(2, 2), 22);
        CHECK.due("region 1 is free", heap.region(1, 0), 0);
        CHECK.due("the register holds the new one", heap.tag(0), 1);
    }

    private static void noRoomAtAll() {
        ForwardHeap heap = new ForwardHeap(3, 128);
        fill(heap, 3, 0);
        heap.alloc(1, 0, 44);
        CHECK.due("place before", heap.where(1), 366);
        CHECK.due("region 2 is active", heap.region(2, 0), 1);
        CHECK.due("no room", heap.alloc(1, 20, 45), -1);
        CHECK.due("the register keeps what it held", heap.tag(1), 44);
        CHECK.due("at its place", heap.where(1), 366);
        CHECK.due("region 2 is closed", heap.region(2, 0), 3);
        CHECK.due("no room for a small one either", heap.alloc(1, 0, 46), -1);
        CHECK.due("none into an empty register", heap.alloc(5, 0, 46), -1);
        CHECK.due("it stays empty", heap.where(5), -1);
    }

    /** Two cycles: the first one still keeps what was seen when it began, the second one does not. */
    private static void goingCycleIsEndedFirst() {
        ForwardHeap heap = new ForwardHeap(3, 0);
        for (int register = 0; register < 5; register++) {
            heap.alloc(register, 20, 1);
        }
        heap.begin();
        for (int register = 0; register < 5; register++) {
            heap.drop(register);
        }
        for (int k = 0; k < 10; k++) {
            heap.alloc(k % 10, 20, 2);
        }
        CHECK.due("still marking", heap.work(0), 1);
        CHECK.due("room behind two cycles", heap.alloc(0, 20, 3), 0);
        CHECK.due("none goes on", heap.work(0), 0);
    }

    private static void seenWhileACycleGoesOn() {
        ForwardHeap heap = new ForwardHeap(3, 0);
        heap.alloc(0, 1, 1);
        CHECK.due("not seen before", heap.region(0, 2), 0);
        heap.begin();
        heap.alloc(1, 2, 1);
        CHECK.due("seen in marking", heap.region(0, 2), 7);
        CHECK.due("does not wait", heap.count(2), 1);
        CHECK.due("moving", heap.work(2), 2);
        heap.alloc(2, 3, 1);
        CHECK.due("seen in moving", heap.region(0, 2), 12);
        CHECK.due("updating", heap.work(1), 3);
        heap.alloc(3, 4, 1);
        CHECK.due("seen in updating", heap.region(0, 2), 18);
        CHECK.due("ended", heap.work(3), 0);
        heap.alloc(4, 5, 1);
        CHECK.due("not seen behind it", heap.region(0, 2), 18);
        CHECK.due("used", heap.region(0, 1), 25);
    }

    /** So many regions with five objects of 22 words each, the latest one in the register. */
    private static void fill(ForwardHeap heap, int regions, int register) {
        for (int k = 0; k < 5 * regions; k++) {
            CHECK.due("filling", heap.alloc(register, 20, k), 128 * (k / 5) + 22 * (k % 5));
        }
    }
}
