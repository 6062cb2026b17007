/** The document's Terms: for each sentence that names a boundary case, the case inside and the one outside. */
public final class TermsTest {
    private static final Check CHECK = new Check();

    public static void main(String[] args) {
        activeIsClosedWhenItHasNotEnough();
        leastFreeOneIsActiveThen();
        rowOfThoseThatAreSeen();
        fieldsAreSeenInTheirOrder();
        rowIsEmptyWhenACycleBegins();
        setIsChosenWhenNoneWaits();
        setIsOfMoreThanThresholdWords();
        setIsNotOfWordsNeverUsed();
        setIsOfWordsThatWereMovedToo();
        setIsOfClosedRegionsOnly();
        sameFieldWhileItMarks();
        sameFieldWhileItMoves();
        thoseThatComeAreSeenAndDoNotWait();
        targetTakesAsLongAsItHasRoom();
        objectFailsWhenThereIsNone();
        objectFailsWhenTheLastFreeOneBecameActive();
        targetGoesOnBehindOneThatFailed();
        oneThatFailedIsNotTriedAgainInThisCycle();
        cycleEndsInTheUnitOfTheLastRegion();
        cycleEndsWithTheSetFreeOrClosed();
        wholeCollectionIsOneCycleOrTwo();
        CHECK.end();
    }

    /** "An object that comes needs room in the active region; if that has not enough, it is closed". */
    private static void activeIsClosedWhenItHasNotEnough() {
        for (int room = 2; room <= 22; room++) {
            ForwardHeap inside = new ForwardHeap(3, 0);
            Fill.oneRegister(inside, 0, 128 - room);
            CHECK.due("just enough: " + room, inside.alloc(0, room - 2, 1), 128 - room);
            CHECK.due("it is full", inside.region(0, 1), 128);
            CHECK.due("it stays active", inside.region(0, 0), 1);
            CHECK.due("the next one stays free", inside.region(1, 0), 0);
        }
        for (int room = 1; room <= 21; room++) {
            ForwardHeap outside = new ForwardHeap(3, 0);
            Fill.oneRegister(outside, 0, 128 - room);
            CHECK.due("a word too little: " + room, outside.alloc(0, room - 1, 1), 128);
            CHECK.due("it is closed", outside.region(0, 0), 3);
            CHECK.due("with the words that it had", outside.region(0, 1), 128 - room);
            CHECK.due("the next one is active", outside.region(1, 0), 1);
        }
        ForwardHeap full = new ForwardHeap(3, 0);
        Fill.wholeRegions(full, 0, 1);
        CHECK.due("a full one stays active until one comes", full.region(0, 0), 1);
        CHECK.due("that goes into the next", full.alloc(0, 0, 1), 128);
        CHECK.due("and closes it", full.region(0, 0), 3);
    }

    /** "if there is none then, the least free one is active": region 0 again, behind 3. */
    private static void leastFreeOneIsActiveThen() {
        ForwardHeap heap = new ForwardHeap(6, 0);
        CHECK.due("the first one of all", heap.alloc(0, 20, 1), 0);
        Fill.oneRegister(heap, 0, 106);
        Fill.manyRegisters(heap, 0, 128);
        Fill.oneRegister(heap, 9, 128);
        CHECK.due("behind three", heap.alloc(8, 0, 1), 384);
        CHECK.due("free: 0, 2 and 5; the target was 4", heap.collect(), 3);
        CHECK.due("region 1 is closed", heap.region(1, 0), 3);
        CHECK.due("region 2 is free", heap.region(2, 0), 0);
        Fill.oneRegister(heap, 7, 126);
        CHECK.due("0 is the least", heap.alloc(7, 0, 1), 0);
        Fill.oneRegister(heap, 7, 126);
        CHECK.due("2 is the next", heap.alloc(7, 0, 1), 256);
        Fill.oneRegister(heap, 7, 126);
        CHECK.due("5 is the last", heap.alloc(7, 0, 1), 640);
    }

    /** "in the order of registers"; "Objects that are seen wait in a row, in the order in which they are". */
    private static void rowOfThoseThatAreSeen() {
        ForwardHeap heap = new ForwardHeap(3, 0);
        for (int register = 9; register >= 0; register--) {
            heap.alloc(register, register, register);
            for (int i = 0; i < register; i++) {
                heap.alloc(0, 0, 100);
                heap.write(register, i, 0);
            }
        }
        heap.drop(0);
        heap.alloc(0, 0, 0);
        heap.begin();
        int waiting = 10;
        for (int register = 0; register < 10; register++) {
            heap.work(1);
            waiting += register - 1;
            CHECK.due("wait behind register " + register, heap.count(2), waiting);
        }
    }

    /** "the objects in its fields, in their order, that were not seen are": field 0's is taken out first. */
    private static void fieldsAreSeenInTheirOrder() {
        ForwardHeap heap = new ForwardHeap(3, 0);
        heap.alloc(0, 2, 1);
        heap.alloc(1, 3, 2);
        heap.write(0, 0, 1);
        for (int i = 0; i < 3; i++) {
            heap.alloc(2, 0, 3);
            heap.write(1, i, 2);
        }
        heap.alloc(1, 0, 4);
        heap.write(0, 1, 1);
        heap.drop(1);
        heap.drop(2);
        heap.begin();
        heap.work(1);
        CHECK.due("two in the fields of the first", heap.count(2), 2);
        heap.work(1);
        CHECK.due("three in the fields of field 0's", heap.count(2), 4);
        heap.work(1);
        CHECK.due("none in those of field 1's", heap.count(2), 3);
    }

    /** "no object is SEEN; then the objects of registers are": of two that waited once, one waits again. */
    private static void rowIsEmptyWhenACycleBegins() {
        ForwardHeap heap = new ForwardHeap(3, 0);
        heap.alloc(0, 0, 1);
        heap.alloc(1, 3, 2);
        heap.begin();
        CHECK.due("both wait", heap.count(2), 2);
        heap.work(10000);
        heap.drop(1);
        heap.begin();
        CHECK.due("one waits", heap.count(2), 1);
        CHECK.due("one is seen", heap.region(0, 2), 2);
        CHECK.due("it is taken out", heap.work(1), 1);
        CHECK.due("none waits", heap.count(2), 0);
        CHECK.due("moving begins", heap.work(1), 2);
        CHECK.due("the other one was not seen", heap.region(0, 2), 2);
    }

    /** "If none waits, THE SET is ..., and MOVING begins": in a unit of its own. */
    private static void setIsChosenWhenNoneWaits() {
        ForwardHeap heap = Stage.MARKING.make();
        CHECK.due("the last one that waits", heap.work(4), 1);
        CHECK.due("none waits", heap.count(2), 0);
        CHECK.due("not in the set yet", heap.region(0, 0), 3);
        CHECK.due("one more unit", heap.work(1), 2);
        CHECK.due("in the set", heap.region(0, 0), 4);
        CHECK.due("none was moved by it", heap.count(0), 0);
        ForwardHeap again = Stage.MARKED.make();
        again.write(0, 0, 9);
        CHECK.due("it had been seen: none waits", again.count(2), 0);
        CHECK.due("so moving begins", again.work(1), 2);
        ForwardHeap empty = new ForwardHeap(3, 0);
        empty.begin();
        CHECK.due("none at all waits", empty.work(1), 2);
        CHECK.due("no set: no object to move", empty.work(1), 3);
    }

    /** "of which more than THRESHOLD words are used by objects that were not seen". */
    private static void setIsOfMoreThanThresholdWords() {
        for (int dead = 0; dead <= 128; dead++) {
            if (dead == 1 || dead == 127) {
                continue;
            }
            CHECK.due(dead + " over " + dead, kindWith(dead, dead), 3);
            if (dead > 0) {
                CHECK.due(dead + " over one less", kindWith(dead, dead - 1), 4);
            }
        }
    }

    /** What region 0 is when MOVING begins, with so many words of garbage and the others seen. */
    private static int kindWith(int dead, int threshold) {
        ForwardHeap heap = new ForwardHeap(4, threshold);
        Fill.manyRegisters(heap, 0, 128 - dead);
        Fill.oneRegister(heap, 9, dead);
        heap.alloc(9, 0, 0);
        heap.begin();
        for (int unit = 0; unit < 10 && heap.work(0) == 1; unit++) {
            heap.work(1);
        }
        CHECK.due("words seen", heap.region(0, 2), 128 - dead);
        return heap.region(0, 0);
    }

    /** Words at the end of a region that no object ever used are not "used by objects". */
    private static void setIsNotOfWordsNeverUsed() {
        ForwardHeap heap = new ForwardHeap(4, 0);
        Fill.manyRegisters(heap, 0, 110);
        heap.alloc(9, 20, 0);
        heap.begin();
        CHECK.due("moving", heap.work(7), 2);
        CHECK.due("all 110 were seen, 18 never used", heap.region(0, 0), 3);
    }

    /**
     * "(words that no object uses any more, as it was moved, count so, too)". A region that lost objects by moves
     * had more than THRESHOLD words of garbage besides, so it is in the set of the next cycle in any case.
     */
    private static void setIsOfWordsThatWereMovedToo() {
        ForwardHeap heap = new ForwardHeap(4, 23);
        Fill.manyRegisters(heap, 0, 104);
        Fill.oneRegister(heap, 9, 24);
        heap.alloc(5, 14, 1);
        Fill.manyRegisters(heap, 6, 88);
        heap.write(5, 0, 9);
        Fill.oneRegister(heap, 9, 24);
        heap.alloc(9, 0, 0);
        heap.begin();
        heap.work(10000);
        CHECK.due("16 words are moved out of region 1", heap.where(5), 3 * 128 + 104);
        CHECK.due("88 words fail", heap.count(1), 4);
        CHECK.due("its words", heap.region(1, 1), 128);
        CHECK.due("those seen", heap.region(1, 2), 88);
        heap.begin();
        CHECK.due("moving", heap.work(12), 2);
        CHECK.due("40 words over 23", heap.region(1, 0), 4);
        CHECK.due("the target before has none", heap.region(3, 0), 3);
    }

    /** "all closed regions": neither the active one nor a free one. */
    private static void setIsOfClosedRegionsOnly() {
        ForwardHeap heap = new ForwardHeap(4, 0);
        Fill.wholeRegions(heap, 0, 2);
        heap.drop(0);
        heap.begin();
        CHECK.due("moving", heap.work(1), 2);
        CHECK.due("a closed one of garbage", heap.region(0, 0), 4);
        CHECK.due("the active one of garbage, though it is full", heap.region(1, 0), 1);
        CHECK.due("a free one", heap.region(2, 0), 0);
        heap.alloc(0, 0, 0);
        CHECK.due("it is closed too late", heap.region(1, 0), 3);
        heap.work(10000);
        CHECK.due("it stays", heap.region(1, 0), 3);
        CHECK.due("till the next cycle", heap.collect(), 3);
    }

    /** "A field that becomes another one (or the same) while it marks: the object that it held before is seen". */
    private static void sameFieldWhileItMarks() {
        for (int other = 0; other <= 2; other++) {
            ForwardHeap heap = Stage.MARKING.make();
            CHECK.due("registers wait", heap.count(2), 3);
            heap.read(9, 0, 0);
            CHECK.due("a read sees none", heap.count(2), 3);
            CHECK.due("its tag", heap.write(0, 0, other == 0 ? 9 : other == 1 ? 1 : 5), 7);
            CHECK.due("the one that it held before is seen", heap.count(2), 4);
            CHECK.due("its words, too", heap.region(0, 2), 29);
            heap.write(0, 0, 9);
            CHECK.due("one that was seen is not seen again", heap.count(2), 4);
        }
        ForwardHeap nothing = Stage.MARKING.make();
        nothing.write(0, 1, 8);
        CHECK.due("it held nothing: none is seen", nothing.count(2), 3);
    }

    /** "An object in the set whose field becomes another one (or the same) ... is moved so first". */
    private static void sameFieldWhileItMoves() {
        for (int other = 0; other <= 2; other++) {
            ForwardHeap heap = Stage.MOVING.make();
            heap.read(9, 0, 0);
            CHECK.due("a read moves none", heap.count(0), 0);
            heap.write(0, 0, other == 0 ? 9 : other == 1 ? 1 : 5);
            CHECK.due("the one with the field is moved", heap.where(0), 256);
            CHECK.due("not the one that it held", heap.where(9), 24);
            heap.write(0, 0, 9);
            CHECK.due("one that was moved is not moved again", heap.count(0), 1);
        }
        ForwardHeap heap = Stage.MOVING.make();
        heap.write(8, 0, 0);
        CHECK.due("one outside of the set is not moved", heap.count(0), 0);
        CHECK.due("nor one that is written", heap.where(0), 0);
        ForwardHeap before = Stage.MARKED.make();
        before.write(0, 0, 1);
        CHECK.due("a unit before", before.where(0), 0);
        ForwardHeap behind = Stage.MOVED.make();
        CHECK.due("all are moved", behind.work(3), 3);
        behind.write(0, 0, 1);
        CHECK.due("a unit behind", behind.count(0), 3);
        ForwardHeap failed = Stage.FAILED.make();
        failed.write(0, 0, 1);
        CHECK.due("one that failed is not tried again", failed.count(1), 1);
    }

    /** "Objects that come (whenever) in MARKING, MOVING or UPDATING are seen, and do not wait". */
    private static void thoseThatComeAreSeenAndDoNotWait() {
        for (Stage stage : Stage.values()) {
            if (stage == Stage.FULL) {
                continue;
            }
            ForwardHeap heap = stage.make();
            int waiting = heap.count(2);
            int place = heap.alloc(9, 3, 1);
            int seen = heap.region(place / 128, 2);
            heap.alloc(9, 0, 1);
            CHECK.due("seen in " + stage, heap.region(place / 128, 2) - seen, stage.phase == 0 ? 0 : 2);
            CHECK.due("none more waits in " + stage, heap.count(2), waiting);
            CHECK.due("none went on or ended in " + stage, heap.work(0), stage.phase);
        }
    }

    /**
     * Five objects of 22 words out of region 0 and one of the given words out of region 1, both in the set;
     * region 2 is active, and the regions behind it are free.
     */
    private static ForwardHeap sixToMove(int regions, int lastWords) {
        ForwardHeap heap = new ForwardHeap(regions, 0);
        Fill.manyRegisters(heap, 0, 110);
        Fill.oneRegister(heap, 9, 18);
        heap.alloc(5, lastWords - 2, 6);
        Fill.oneRegister(heap, 9, 128 - lastWords);
        heap.alloc(9, 0, 0);
        heap.begin();
        CHECK.due("moving", heap.work(8), 2);
        CHECK.due("region 0", heap.region(0, 0), 4);
        CHECK.due("region 1", heap.region(1, 0), 4);
        CHECK.due("five are moved", heap.work(5), 2);
        CHECK.due("the target", heap.region(3, 1), 110);
        return heap;
    }

    /** "if that has not room enough (or there is none), into the least free region, that is target then". */
    private static void targetTakesAsLongAsItHasRoom() {
        ForwardHeap heap = sixToMove(6, 18);
        heap.work(1);
        CHECK.due("just room enough", heap.where(5), 3 * 128 + 110);
        CHECK.due("it is full", heap.region(3, 1), 128);
        CHECK.due("and target still", heap.region(3, 0), 2);
        CHECK.due("the next stays free", heap.region(4, 0), 0);
        heap = sixToMove(6, 19);
        heap.work(1);
        CHECK.due("a word too little", heap.where(5), 4 * 128);
        CHECK.due("the one before is closed", heap.region(3, 0), 3);
        CHECK.due("the least free one is target", heap.region(4, 0), 2);
        CHECK.due("the one behind stays free", heap.region(5, 0), 0);
        heap = Stage.MOVING.make();
        CHECK.due("there is no target", heap.region(2, 0), 0);
        heap.work(1);
        CHECK.due("the least free one is", heap.region(2, 0), 2);
        CHECK.due("from its first word", heap.where(0), 256);
    }

    /** "if there is none, it fails: it stays". */
    private static void objectFailsWhenThereIsNone() {
        ForwardHeap heap = sixToMove(4, 18);
        heap.work(1);
        CHECK.due("none is free, but the target has just room", heap.where(5), 3 * 128 + 110);
        CHECK.due("none failed", heap.count(1), 0);
        heap = sixToMove(4, 19);
        heap.work(1);
        CHECK.due("none is free: it stays", heap.where(5), 128);
        CHECK.due("it failed", heap.count(1), 1);
        CHECK.due("and was not moved", heap.count(0), 5);
        CHECK.due("the target stays target", heap.region(3, 0), 2);
        CHECK.due("with the words that it had", heap.region(3, 1), 110);
        CHECK.due("no more", heap.work(1), 3);
        heap = sixToMove(5, 19);
        heap.work(1);
        CHECK.due("one is free", heap.where(5), 4 * 128);
        heap = Stage.FAILED.make();
        CHECK.due("no target and none free", heap.where(0), 0);
        CHECK.due("it failed", heap.count(1), 1);
    }

    private static void objectFailsWhenTheLastFreeOneBecameActive() {
        ForwardHeap heap = sixToMove(5, 19);
        Fill.oneRegister(heap, 9, 126);
        CHECK.due("region 2 is full", heap.region(2, 1), 128);
        CHECK.due("one comes into the last free one", heap.alloc(9, 0, 1), 4 * 128);
        heap.work(1);
        CHECK.due("it fails", heap.count(1), 1);
        CHECK.due("it stays", heap.where(5), 128);
        heap.work(10000);
        CHECK.due("its region is closed", heap.region(1, 0), 3);
        CHECK.due("the other one is free", heap.region(0, 0), 0);
    }

    /** The target without room for one is not closed, as no other one became target. */
    private static void targetGoesOnBehindOneThatFailed() {
        ForwardHeap heap = new ForwardHeap(4, 0);
        Fill.manyRegisters(heap, 0, 110);
        Fill.oneRegister(heap, 9, 18);
        heap.alloc(5, 17, 6);
        heap.alloc(6, 16, 7);
        Fill.oneRegister(heap, 9, 91);
        heap.alloc(9, 0, 0);
        heap.begin();
        CHECK.due("moving", heap.work(9), 2);
        heap.work(6);
        CHECK.due("19 words fail", heap.count(1), 1);
        heap.work(1);
        CHECK.due("18 words still fit", heap.where(6), 3 * 128 + 110);
        CHECK.due("failed", heap.count(1), 1);
        CHECK.due("moved", heap.count(0), 6);
    }

    private static void oneThatFailedIsNotTriedAgainInThisCycle() {
        ForwardHeap heap = Stage.FAILED.make();
        CHECK.due("the second one fails", heap.work(1), 2);
        CHECK.due("the third one fails", heap.work(1), 2);
        CHECK.due("there is no more such object", heap.work(1), 3);
        CHECK.due("three failed", heap.count(1), 3);
        CHECK.due("none goes on", heap.work(10000), 0);
        heap.begin();
        heap.work(10000);
        CHECK.due("in the next cycle they are moved", heap.count(0), 3);
        CHECK.due("from the first", heap.where(0), 128);
        CHECK.due("none failed", heap.count(1), 3);
        ForwardHeap written = Stage.FAILED.make();
        written.work(10000);
        written.begin();
        CHECK.due("moving", written.work(5), 2);
        written.write(0, 0, 1);
        CHECK.due("in the next cycle a write moves it, too", written.where(0), 128);
    }

    /** "the next region (0 the first) is gone over. Behind the last one (in the same unit) the cycle ends". */
    private static void cycleEndsInTheUnitOfTheLastRegion() {
        for (int regions = 3; regions <= 16; regions++) {
            ForwardHeap heap = new ForwardHeap(regions, 0);
            heap.begin();
            CHECK.due("updating begins", heap.work(2), 3);
            CHECK.due("all but the last of " + regions, heap.work(regions - 1), 3);
            CHECK.due("the last one", heap.work(1), 0);
            heap.begin();
            CHECK.due("from region 0 again", heap.work(2 + regions - 1), 3);
            CHECK.due("to the last one", heap.work(1), 0);
        }
    }

    /** "regions of the set are free, but those in which an object failed: these are closed; the target is closed". */
    private static void cycleEndsWithTheSetFreeOrClosed() {
        ForwardHeap heap = sixToMove(4, 19);
        heap.work(1);
        CHECK.due("all but the last unit", heap.work(1 + 3), 3);
        CHECK.due("region 0 in the set", heap.region(0, 0), 4);
        CHECK.due("region 1 in the set", heap.region(1, 0), 4);
        CHECK.due("region 3 target", heap.region(3, 0), 2);
        CHECK.due("the last unit", heap.work(1), 0);
        CHECK.due("region 0 free", heap.region(0, 0), 0);
        CHECK.due("region 1, in which one failed, closed", heap.region(1, 0), 3);
        CHECK.due("with its words", heap.region(1, 1), 128);
        CHECK.due("region 2 active", heap.region(2, 0), 1);
        CHECK.due("region 3 closed", heap.region(3, 0), 3);
        heap = sixToMove(4, 18);
        heap.work(10000);
        CHECK.due("region 1, in which none failed, free", heap.region(1, 0), 0);
    }

    /** "units until no cycle goes on; then a cycle begins, and units until none goes on". */
    private static void wholeCollectionIsOneCycleOrTwo() {
        ForwardHeap none = Stage.QUIET.make();
        none.collect();
        CHECK.due("no cycle goes on: each of three is moved once", none.count(0), 3);
        ForwardHeap one = Stage.FAILED.make();
        one.collect();
        CHECK.due("one goes on: all three fail in it", one.count(1), 3);
        CHECK.due("and are moved in the next", one.count(0), 3);
        CHECK.due("none goes on", one.work(0), 0);
        ForwardHeap seen = Stage.MARKING.make();
        seen.drop(1);
        seen.write(0, 19, 9);
        seen.collect();
        CHECK.due("one that was dropped is kept by the first, not by the second", seen.region(2, 2), 0);
        CHECK.due("what is held is seen", seen.region(0, 2), 27);
    }
}
