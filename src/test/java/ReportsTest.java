/** Promises 13 and 14: what region and count answer. */
public final class ReportsTest {
    private static final Check CHECK = new Check();

    public static void main(String[] args) {
        seenWordsAreOfTheLatestCycle();
        freedRegionIsUsedAgain();
        CHECK.end();
    }

    private static void seenWordsAreOfTheLatestCycle() {
        ForwardHeap heap = new ForwardHeap(3, 0);
        heap.alloc(0, 3, 1);
        heap.alloc(1, 4, 1);
        heap.collect();
        CHECK.due("both", heap.region(0, 2), 11);
        heap.drop(0);
        CHECK.due("still both", heap.region(0, 2), 11);
        heap.begin();
        CHECK.due("one", heap.region(0, 2), 6);
        heap.work(10000);
        CHECK.due("one", heap.region(0, 2), 6);
        CHECK.due("used", heap.region(0, 1), 11);
        heap.drop(1);
        heap.begin();
        CHECK.due("none", heap.region(0, 2), 0);
    }

    private static void freedRegionIsUsedAgain() {
        ForwardHeap heap = new ForwardHeap(3, 0);
        for (int k = 0; k < 6; k++) {
            heap.alloc(0, 20, k);
        }
        CHECK.due("region 0 and 2 are free", heap.collect(), 2);
        CHECK.due("used", heap.region(0, 1), 0);
        for (int k = 0; k < 4; k++) {
            heap.alloc(1, 20, k);
        }
        CHECK.due("the least free one", heap.alloc(2, 20, 9), 0);
        CHECK.due("used again", heap.region(0, 1), 22);
        CHECK.due("none of it seen", heap.region(0, 2), 0);
        heap.begin();
        CHECK.due("seen", heap.region(0, 2), 22);
    }
}
