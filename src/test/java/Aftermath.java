/**
 * All that a heap would still answer: what it tells now, its fields, its units one by one, and its room. It
 * takes some 350 calls, so that a heap that was made with a few is still used for no more than 512.
 */
final class Aftermath {
    private static final int UNITS = 20;
    private static final int ALLOCS = 20;

    private Aftermath() {
    }

    /** The heap is used up by this: two that are to be compared are made alike first. */
    static String of(ForwardHeap heap) {
        StringBuilder told = new StringBuilder();
        told.append(Check.stateOf(heap));
        tellFields(heap, told);
        tellUnits(heap, told);
        told.append(" begin ").append(heap.begin());
        tellUnits(heap, told);
        told.append(Check.stateOf(heap));
        for (int k = 0; k < ALLOCS; k++) {
            told.append(" alloc ").append(heap.alloc(9, 20, k));
        }
        return told.append(Check.stateOf(heap)).toString();
    }

    private static void tellFields(ForwardHeap heap, StringBuilder told) {
        for (int register = 0; register < 9; register++) {
            for (int i = 0; i < 20; i++) {
                try {
                    told.append(" field ").append(heap.read(9, register, i)).append(" at ").append(heap.where(9));
                } catch (IndexOutOfBoundsException | IllegalStateException e) {
                    break;
                }
            }
        }
        heap.drop(9);
    }

    private static void tellUnits(ForwardHeap heap, StringBuilder told) {
        int phase = heap.work(0);
        for (int k = 0; k < UNITS && phase != 0; k++) {
            phase = heap.work(1);
            told.append(" unit ").append(phase);
            told.append(" counts ").append(heap.count(0)).append(' ').append(heap.count(1)).append(' ').append(heap.count(2));
        }
    }
}
