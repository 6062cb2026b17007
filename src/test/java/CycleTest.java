/** Promises 10 to 12, and the units of marking, moving and updating. */
public final class CycleTest {
    private static final Check CHECK = new Check();

    public static void main(String[] args) {
        beginning();
        workBounds();
        phasesOfAnEmptyHeap();
        rowIsServedFromItsFront();
        fieldsAreSeenOnce();
        writeWhileItMarks();
        writeInOtherPhasesSeesNothing();
        setIsOfClosedRegionsOverTheThreshold();
        leastPlaceMovesFirst();
        targetGoesOver();
        failing();
        smallerOneStillFits();
        failedRegionLater();
        writeWhileItMoves();
        readDoesNotMove();
        writeThatFails();
        updatingTakesAUnitARegion();
        wholeCollection();
        CHECK.end();
    }

    private static void beginning() {
        ForwardHeap heap = new ForwardHeap(3, 0);
        CHECK.due("begins", heap.begin(), 1);
        CHECK.due("phase", heap.work(0), 1);
        for (int phase = 1; phase <= 3; phase++) {
            CHECK.due("phase goes on", heap.work(0), phase);
            CHECK.due("begins not", heap.begin(), 0);
            heap.work(1);
        }
        CHECK.due("ended", heap.work(2), 0);
        CHECK.due("begins again", heap.begin(), 1);
    }

    private static void workBounds() {
        ForwardHeap heap = new ForwardHeap(3, 0);
        CHECK.due("no cycle", heap.work(10000), 0);
        CHECK.due("no cycle", heap.work(0), 0);
        heap.alloc(0, 1, 1);
        heap.begin();
        CHECK.due("no unit", heap.work(0), 1);
        CHECK.due("still waits", heap.count(2), 1);
        CHECK.due("a whole cycle", heap.work(10000), 0);
    }

    private static void phasesOfAnEmptyHeap() {
        ForwardHeap heap = new ForwardHeap(4, 0);
        heap.begin();
        int[] want = {2, 3, 3, 3, 3, 0, 0};
        for (int phase : want) {
            CHECK.due("phase", heap.work(1), phase);
        }
    }

    private static void rowIsServedFromItsFront() {
        ForwardHeap heap = new ForwardHeap(3, 0);
        heap.alloc(9, 2, 1);
        heap.alloc(5, 0, 2);
        heap.write(9, 0, 5);
        heap.alloc(5, 0, 3);
        heap.write(9, 1, 5);
        heap.alloc(4, 0, 4);
        heap.move(5, 4);
        heap.begin();
        CHECK.due("two wait", heap.count(2), 2);
        CHECK.due("and are seen", heap.region(0, 2), 6);
        heap.work(1);
        CHECK.due("register 4's first", heap.count(2), 1);
        heap.work(1);
        CHECK.due("register 9's then, its fields wait", heap.count(2), 2);
        CHECK.due("and are seen", heap.region(0, 2), 10);
        CHECK.due("two more", heap.work(2), 1);
        CHECK.due("none waits", heap.count(2), 0);
        CHECK.due("so moving begins", heap.work(1), 2);
    }

    private static void fieldsAreSeenOnce() {
        ForwardHeap heap = new ForwardHeap(3, 0);
        heap.alloc(0, 3, 1);
        heap.alloc(1, 1, 2);
        heap.write(0, 0, 1);
        heap.write(0, 2, 1);
        heap.write(0, 1, 0);
        heap.write(1, 0, 0);
        heap.drop(1);
        heap.begin();
        CHECK.due("one waits", heap.count(2), 1);
        heap.work(1);
        CHECK.due("the other waits once", heap.count(2), 1);
        heap.work(1);
        CHECK.due("a ring ends", heap.count(2), 0);
        CHECK.due("both are seen", heap.region(0, 2), 8);
    }

    private static void writeWhileItMarks() {
        ForwardHeap heap = new ForwardHeap(3, 0);
        heap.alloc(0, 2, 1);
        heap.alloc(1, 0, 2);
        heap.write(0, 0, 1);
        heap.alloc(1, 3, 3);
        heap.write(0, 1, 1);
        heap.drop(1);
        heap.begin();
        CHECK.due("one waits", heap.count(2), 1);
        CHECK.due("what was held", heap.write(0, 0, 7), 2);
        CHECK.due("is seen and waits", heap.count(2), 2);
        CHECK.due("its words", heap.region(0, 2), 6);
        CHECK.due("nothing was held", heap.write(0, 0, 0), 0);
        CHECK.due("none more waits", heap.count(2), 2);
        heap.read(2, 0, 1);
        CHECK.due("read sees nothing", heap.count(2), 2);
        CHECK.due("the same is written", heap.write(0, 1, 2), 3);
        CHECK.due("it is seen all the same", heap.count(2), 3);
        heap.write(0, 1, 2);
        CHECK.due("but once", heap.count(2), 3);
        heap.drop(2);
        heap.move(3, 0);
        CHECK.due("registers see nothing", heap.count(2), 3);
    }

    private static void writeInOtherPhasesSeesNothing() {
        ForwardHeap heap = new ForwardHeap(3, 0);
        heap.alloc(0, 1, 1);
        heap.alloc(1, 0, 2);
        heap.write(0, 0, 1);
        heap.write(0, 0, 1);
        CHECK.due("no cycle", heap.count(2), 0);
        CHECK.due("none seen", heap.region(0, 2), 0);
        heap.begin();
        CHECK.due("moving", heap.work(3), 2);
        heap.write(0, 0, 1);
        CHECK.due("updating", heap.work(1), 3);
        heap.write(0, 0, 1);
        CHECK.due("none waits", heap.count(2), 0);
    }

    private static void setIsOfClosedRegionsOverTheThreshold() {
        for (int threshold = 21; threshold <= 22; threshold++) {
            ForwardHeap heap = new ForwardHeap(4, threshold);
            for (int register = 0; register < 9; register++) {
                heap.alloc(register, 20, register);
            }
            heap.drop(2);
            heap.drop(6);
            heap.drop(7);
            heap.begin();
            heap.work(7);
            CHECK.due("moving begins", heap.work(0), 2);
            CHECK.due("22 words over " + threshold, heap.region(0, 0), threshold == 21 ? 4 : 3);
            CHECK.due("the active one never", heap.region(1, 0), 1);
            CHECK.due("its words stay", heap.region(0, 1), 110);
        }
    }

    /** Region 0: registers 0 and 2 (22 words each) and three of garbage. */
    private static ForwardHeap twoInTheSet() {
        ForwardHeap heap = new ForwardHeap(4, 0);
        heap.alloc(2, 20, 20);
        heap.alloc(9, 20, 90);
        heap.alloc(0, 20, 10);
        heap.alloc(9, 20, 91);
        heap.alloc(9, 20, 92);
        heap.alloc(9, 20, 93);
        heap.begin();
        CHECK.due("moving", heap.work(4), 2);
        CHECK.due("in the set", heap.region(0, 0), 4);
        return heap;
    }

    private static void leastPlaceMovesFirst() {
        ForwardHeap heap = twoInTheSet();
        CHECK.due("seen in region 0", heap.region(0, 2), 44);
        CHECK.due("one moves", heap.work(1), 2);
        CHECK.due("the one with the least place", heap.where(2), 256);
        CHECK.due("not the other", heap.where(0), 44);
        CHECK.due("target", heap.region(2, 0), 2);
        CHECK.due("words of the target", heap.region(2, 1), 22);
        CHECK.due("seen in the target", heap.region(2, 2), 22);
        CHECK.due("seen in region 0 now", heap.region(0, 2), 22);
        CHECK.due("used in region 0 now", heap.region(0, 1), 110);
        CHECK.due("moved", heap.count(0), 1);
        CHECK.due("the other moves", heap.work(1), 2);
        CHECK.due("behind it", heap.where(0), 278);
        CHECK.due("no more", heap.work(1), 3);
        CHECK.due("the cycle ends", heap.work(4), 0);
        CHECK.due("region 0 is free", heap.region(0, 0), 0);
        CHECK.due("region 0 is empty", heap.region(0, 1), 0);
        CHECK.due("region 0 has none seen", heap.region(0, 2), 0);
        CHECK.due("the target is closed", heap.region(2, 0), 3);
        CHECK.due("tags go along", heap.tag(0), 10);
        CHECK.due("tags go along", heap.tag(2), 20);
        CHECK.due("moved in all", heap.count(0), 2);
    }

    /** Six objects of 22 words out of two regions: the first target takes five of them. */
    private static void targetGoesOver() {
        ForwardHeap heap = new ForwardHeap(5, 0);
        for (int k = 0; k < 3; k++) {
            heap.alloc(k, 20, k);
        }
        heap.alloc(9, 20, 9);
        heap.alloc(9, 20, 9);
        for (int k = 3; k < 6; k++) {
            heap.alloc(k, 20, k);
        }
        heap.alloc(9, 20, 9);
        heap.alloc(9, 20, 9);
        heap.alloc(9, 20, 9);
        heap.begin();
        CHECK.due("moving", heap.work(8), 2);
        heap.work(5);
        CHECK.due("the fifth", heap.where(4), 3 * 128 + 88);
        CHECK.due("target", heap.region(3, 0), 2);
        heap.work(1);
        CHECK.due("the sixth", heap.where(5), 4 * 128);
        CHECK.due("the one before is closed", heap.region(3, 0), 3);
        CHECK.due("the new target", heap.region(4, 0), 2);
        CHECK.due("the set is free behind it", heap.collect(), 2);
    }

    /** Region 0 has only garbage, region 1 one object, region 2 is active: none is free. */
    private static ForwardHeap noneFree() {
        ForwardHeap heap = new ForwardHeap(3, 0);
        for (int k = 0; k < 6; k++) {
            heap.alloc(0, 20, k);
        }
        for (int k = 0; k < 4; k++) {
            heap.alloc(9, 20, 9);
        }
        heap.alloc(9, 20, 9);
        heap.begin();
        CHECK.due("moving", heap.work(3), 2);
        CHECK.due("region 0", heap.region(0, 0), 4);
        CHECK.due("region 1", heap.region(1, 0), 4);
        return heap;
    }

    private static void failing() {
        ForwardHeap heap = noneFree();
        CHECK.due("a unit that fails", heap.work(1), 2);
        CHECK.due("failed", heap.count(1), 1);
        CHECK.due("moved", heap.count(0), 0);
        CHECK.due("it stays", heap.where(0), 128);
        heap.write(0, 0, 9);
        CHECK.due("a write does not try again", heap.count(1), 1);
        CHECK.due("no more", heap.work(1), 3);
        CHECK.due("ends", heap.work(3), 0);
        CHECK.due("region 0 is free", heap.region(0, 0), 0);
        CHECK.due("region 1 is closed", heap.region(1, 0), 3);
        CHECK.due("its words", heap.region(1, 1), 110);
        CHECK.due("its seen words", heap.region(1, 2), 22);
        CHECK.due("next time it moves", heap.collect(), 1);
        CHECK.due("next time it moves", heap.where(0), 0);
        CHECK.due("moved", heap.count(0), 1);
        CHECK.due("failed", heap.count(1), 1);
        CHECK.due("its field goes along", heap.read(3, 0, 0), 9);
    }

    /** Five of 22 words fill the target but for 18: the sixth fails, one of 2 words still fits. */
    private static ForwardHeap partlyFailed() {
        ForwardHeap heap = new ForwardHeap(4, 0);
        for (int k = 0; k < 5; k++) {
            heap.alloc(k, 20, k);
        }
        heap.alloc(9, 2, 9);
        heap.alloc(5, 20, 5);
        heap.alloc(6, 0, 6);
        for (int k = 0; k < 5; k++) {
            heap.alloc(9, 20, 9);
        }
        CHECK.due("region 2 is active", heap.region(2, 0), 1);
        heap.begin();
        CHECK.due("moving", heap.work(9), 2);
        CHECK.due("all move or fail", heap.work(7), 2);
        return heap;
    }

    private static void smallerOneStillFits() {
        ForwardHeap heap = partlyFailed();
        CHECK.due("moved", heap.count(0), 6);
        CHECK.due("failed", heap.count(1), 1);
        CHECK.due("the large one stays", heap.where(5), 128);
        CHECK.due("the small one moves", heap.where(6), 3 * 128 + 110);
        CHECK.due("the target stays target", heap.region(3, 0), 2);
        CHECK.due("seen where it failed", heap.region(1, 2), 22);
        CHECK.due("updating", heap.work(1), 3);
        CHECK.due("ends", heap.work(4), 0);
        CHECK.due("region 0", heap.region(0, 0), 0);
        CHECK.due("region 1", heap.region(1, 0), 3);
        CHECK.due("region 3", heap.region(3, 0), 3);
    }

    /** Words that a moved object left count as those of objects that were not seen. */
    private static void failedRegionLater() {
        ForwardHeap heap = new ForwardHeap(4, 0);
        for (int k = 0; k < 5; k++) {
            heap.alloc(k, 20, k);
        }
        heap.alloc(9, 2, 9);
        heap.alloc(5, 20, 5);
        heap.alloc(6, 0, 6);
        heap.alloc(7, 20, 7);
        heap.alloc(8, 20, 8);
        for (int k = 0; k < 3; k++) {
            heap.alloc(9, 20, 9);
        }
        heap.begin();
        heap.work(10000);
        CHECK.due("region 1 keeps three that failed", heap.count(1), 3);
        CHECK.due("and is closed", heap.region(1, 0), 3);
        heap.begin();
        CHECK.due("marking", heap.work(10), 1);
        CHECK.due("moving", heap.work(1), 2);
        CHECK.due("what is left of it is in the set", heap.region(1, 0), 4);
        CHECK.due("the target before is not", heap.region(3, 0), 3);
        heap.work(1);
        CHECK.due("the one that failed moves now", heap.where(5), 0);
        CHECK.due("ends", heap.work(10000), 0);
        CHECK.due("region 1 is free", heap.region(1, 0), 0);
    }

    private static void writeWhileItMoves() {
        ForwardHeap heap = twoInTheSet();
        CHECK.due("write", heap.write(0, 3, 2), 0);
        CHECK.due("it is moved first", heap.where(0), 256);
        CHECK.due("what is written is not", heap.where(2), 0);
        CHECK.due("moved", heap.count(0), 1);
        CHECK.due("write again", heap.write(0, 3, 2), 20);
        CHECK.due("not moved again", heap.count(0), 1);
        heap.write(9, 0, 0);
        CHECK.due("one outside the set is not moved", heap.where(9), 128);
        CHECK.due("moved", heap.count(0), 1);
        CHECK.due("the other one moves", heap.work(1), 2);
        CHECK.due("behind it", heap.where(2), 278);
        CHECK.due("no more", heap.work(1), 3);
        CHECK.due("the field holds it", heap.read(5, 0, 3), 20);
        CHECK.due("the same one", heap.same(5, 2), true);
        heap.write(0, 3, 0);
        CHECK.due("none moves in updating", heap.count(0), 2);
    }

    private static void readDoesNotMove() {
        ForwardHeap heap = twoInTheSet();
        heap.read(5, 0, 0);
        heap.move(6, 0);
        heap.tag(0);
        heap.same(0, 2);
        CHECK.due("not moved", heap.where(0), 44);
        CHECK.due("not moved", heap.count(0), 0);
    }

    private static void writeThatFails() {
        ForwardHeap heap = noneFree();
        CHECK.due("write", heap.write(0, 0, 0), 0);
        CHECK.due("it failed", heap.count(1), 1);
        CHECK.due("it stays", heap.where(0), 128);
        CHECK.due("it is written", heap.read(5, 0, 0), 5);
        CHECK.due("it is not tried again", heap.work(1), 3);
        CHECK.due("failed", heap.count(1), 1);
    }

    private static void updatingTakesAUnitARegion() {
        for (int regions = 3; regions <= 16; regions++) {
            ForwardHeap heap = new ForwardHeap(regions, 0);
            for (int cycle = 0; cycle < 3; cycle++) {
                heap.begin();
                CHECK.due("updating", heap.work(2), 3);
                CHECK.due("all but one", heap.work(regions - 1), 3);
                CHECK.due("the last one", heap.work(1), 0);
            }
        }
        ForwardHeap heap = twoInTheSet();
        CHECK.due("all but one", heap.work(2 + 1 + 3), 3);
        CHECK.due("still in the set", heap.region(0, 0), 4);
        CHECK.due("still target", heap.region(2, 0), 2);
        CHECK.due("the last one", heap.work(1), 0);
    }

    private static void wholeCollection() {
        CHECK.due("of an empty heap", new ForwardHeap(16, 0).collect(), 16);
        ForwardHeap heap = new ForwardHeap(3, 0);
        for (int k = 0; k < 6; k++) {
            heap.alloc(k, 20, k);
        }
        heap.begin();
        for (int k = 0; k < 5; k++) {
            heap.drop(k);
        }
        CHECK.due("a going cycle, and one more", heap.collect(), 2);
        CHECK.due("none goes on", heap.work(0), 0);
        CHECK.due("region 0", heap.region(0, 0), 0);
        CHECK.due("the active one stays", heap.region(1, 0), 1);
        CHECK.due("seen in the latest", heap.region(1, 2), 22);
        CHECK.due("none waits", heap.count(2), 0);
        wholeCollectionOfAGoingCycle();
    }

    /** The going cycle still moves both objects; the next one empties their region of the dropped one. */
    private static void wholeCollectionOfAGoingCycle() {
        ForwardHeap heap = twoInTheSet();
        heap.drop(0);
        CHECK.due("regions 2 and 3 behind both cycles", heap.collect(), 2);
        CHECK.due("moved three times", heap.count(0), 3);
        CHECK.due("the other one", heap.where(2), 0);
        CHECK.due("region 2 is free", heap.region(2, 0), 0);
    }
}
