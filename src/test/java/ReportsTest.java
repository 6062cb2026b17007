/** Promises 13 and 14: what region and count answer. */
public final class ReportsTest {
    private static final Check CHECK = new Check();

    public static void main(String[] args) {
        seenWordsAreOfTheLatestCycle();
        freedRegionIsUsedAgain();
        oneObjectIsMovedTwice();
        oneObjectFailsTwice();
        CHECK.end();
    }

    private static void seenWordsAreOfTheLatestCycle() {
        ForwardHeap heap = new ForwardHeap(3, 0);
        heap.alloc(0, 3, 1);
        heap.alloc(1, 4, 1);
        heap.collect();
        CHECK.due("both", heap.region(0, 2), 11);
        heap.drop(0);
        CHECK.due("still both", heap.region(0, 2), 11);
        heap.begin();
        CHECK.due("one", heap.region(0, 2), 6);
        heap.work(10000);
        CHECK.due("one", heap.region(0, 2), 6);
        CHECK.due("used", heap.region(0, 1), 11);
        heap.drop(1);
        heap.begin();
        CHECK.due("none", heap.region(0, 2), 0);
    }

    private static void freedRegionIsUsedAgain() {
        ForwardHeap heap = new ForwardHeap(3, 0);
        for (int k = 0; k < 6; k++) {
            heap.alloc(0, 20, k);
        }
        CHECK.due("region 0 and 2 are free", heap.collect(), 2);
        CHECK.due("used", heap.region(0, 1), 0);
        for (int k = 0; k < 4; k++) {
            heap.alloc(1, 20, k);
        }
        CHECK.due("the least free one", heap.alloc(2, 20, 9), 0);
        CHECK.due("used again", heap.region(0, 1), 22);
        CHECK.due("none of it seen", heap.region(0, 2), 0);
        heap.begin();
        CHECK.due("seen", heap.region(0, 2), 22);
    }

    /** "were moved in all": each move counts, be it of an object that was moved before. */
    private static void oneObjectIsMovedTwice() {
        ForwardHeap heap = new ForwardHeap(4, 0);
        heap.alloc(0, 20, 1);
        heap.alloc(1, 0, 2);
        Fill.oneRegister(heap, 9, 128);
        heap.collect();
        CHECK.due("both go out of region 0", heap.count(0), 2);
        int first = heap.where(0);
        heap.drop(1);
        heap.collect();
        CHECK.due("it lies elsewhere again", heap.where(0) != first, true);
        CHECK.due("it counts again", heap.count(0), 3);
    }

    /** "failed in all": regions 0 and 1 have garbage, and nothing can go out of them in either cycle. */
    private static void oneObjectFailsTwice() {
        ForwardHeap heap = new ForwardHeap(3, 0);
        heap.alloc(0, 20, 1);
        Fill.oneRegister(heap, 9, 106);
        heap.alloc(1, 20, 2);
        Fill.oneRegister(heap, 9, 106);
        heap.alloc(9, 0, 3);
        for (int cycle = 1; cycle <= 3; cycle++) {
            CHECK.due("none is free", heap.collect(), 0);
            CHECK.due("both fail in cycle " + cycle, heap.count(1), 2 * cycle);
            CHECK.due("the first one stays", heap.where(0), 0);
            CHECK.due("the second one stays", heap.where(1), 128);
        }
        CHECK.due("none was moved", heap.count(0), 0);
    }
}
