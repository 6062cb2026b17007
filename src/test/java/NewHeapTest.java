/** Promise 1: the number of regions and the threshold are brought into their bounds. */
public final class NewHeapTest {
    private static final Check CHECK = new Check();

    public static void main(String[] args) {
        regionsAreBroughtIntoBounds();
        allIsEmptyAtFirst();
        allRegionsAreUsed();
        thresholdIsBroughtIntoBounds();
        CHECK.end();
    }

    private static void regionsAreBroughtIntoBounds() {
        int[] asked = {Integer.MIN_VALUE, -1, 0, 2, 3, 4, 15, 16, 17, Integer.MAX_VALUE};
        int[] want = {3, 3, 3, 3, 3, 4, 15, 16, 16, 16};
        for (int k = 0; k < asked.length; k++) {
            CHECK.due("regions of " + asked[k], Check.regionsOf(new ForwardHeap(asked[k], 0)), want[k]);
        }
    }

    /** So many regions that are counted, and objects come into all of them. */
    private static void allRegionsAreUsed() {
        int[] asked = {2, 3, 4, 15, 16, 17};
        int[] want = {3, 3, 4, 15, 16, 16};
        for (int k = 0; k < asked.length; k++) {
            ForwardHeap heap = new ForwardHeap(asked[k], 128);
            for (int region = 0; region < want[k]; region++) {
                CHECK.due("begins a region", heap.alloc(0, 0, 1), 128 * region);
                Fill.oneRegister(heap, 0, 126);
            }
            CHECK.due("behind the last of " + want[k], heap.alloc(0, 0, 1), ForwardHeap.NONE);
        }
    }

    private static void allIsEmptyAtFirst() {
        ForwardHeap heap = new ForwardHeap(3, 0);
        for (int register = 0; register < 10; register++) {
            CHECK.due("where at first", heap.where(register), ForwardHeap.NONE);
        }
        for (int i = 0; i < 3; i++) {
            CHECK.due("kind at first", heap.region(i, 0), 0);
            CHECK.due("used at first", heap.region(i, 1), 0);
            CHECK.due("seen at first", heap.region(i, 2), 0);
        }
        for (int what = 0; what < 3; what++) {
            CHECK.due("count at first", heap.count(what), 0);
        }
        CHECK.due("phase at first", heap.work(0), 0);
    }

    /** Region 0 is closed with 2 words of garbage and 110 in use, or with 128 words of garbage. */
    private static void thresholdIsBroughtIntoBounds() {
        CHECK.due("2 words over a threshold below 0", emptied(Integer.MIN_VALUE, false), true);
        CHECK.due("2 words over -1", emptied(-1, false), true);
        CHECK.due("2 words over 0", emptied(0, false), true);
        CHECK.due("2 words over 1", emptied(1, false), true);
        CHECK.due("2 words over 2", emptied(2, false), false);
        CHECK.due("no words over 0", emptiedWithoutGarbage(0), false);
        CHECK.due("no words over -1, which is 0", emptiedWithoutGarbage(-1), false);
        CHECK.due("no words over a threshold far below 0", emptiedWithoutGarbage(Integer.MIN_VALUE), false);
        CHECK.due("128 words over 127", emptied(127, true), true);
        CHECK.due("128 words over 128", emptied(128, true), false);
        CHECK.due("128 words over 129, which is 128", emptied(129, true), false);
        CHECK.due("128 words over a threshold far above 128", emptied(Integer.MAX_VALUE, true), false);
    }

    private static boolean emptied(int threshold, boolean allGarbage) {
        ForwardHeap heap = new ForwardHeap(3, threshold);
        for (int register = 0; register < 5; register++) {
            heap.alloc(register, 20, 1);
        }
        if (allGarbage) {
            heap.alloc(5, 16, 1);
            for (int register = 0; register < 6; register++) {
                heap.drop(register);
            }
        } else {
            heap.alloc(5, 0, 1);
            heap.drop(5);
        }
        heap.alloc(9, 20, 1);
        heap.collect();
        return heap.region(0, 0) == 0;
    }

    private static boolean emptiedWithoutGarbage(int threshold) {
        ForwardHeap heap = new ForwardHeap(3, threshold);
        for (int register = 0; register < 6; register++) {
            heap.alloc(register, 20, 1);
        }
        heap.collect();
        return heap.region(0, 0) == 0;
    }
}
