/** Lays objects of just so many words one behind the other, to bring a region to the edge of a bound. */
final class Fill {
    private static final int LARGEST = 22;
    private static final int SMALLEST = 2;

    private Fill() {
    }

    /** All objects but the last one are garbage; when the words are 0, none is made. */
    static void oneRegister(ForwardHeap heap, int register, int words) {
        for (int left = words; left > 0; left -= part(left)) {
            heap.alloc(register, part(left) - SMALLEST, 0);
        }
    }

    /** So many regions from word 0 to word 127, each begun anew. */
    static void wholeRegions(ForwardHeap heap, int register, int regions) {
        for (int k = 0; k < regions; k++) {
            oneRegister(heap, register, 128);
        }
    }

    /** All objects stay held, each by a register of its own: so many registers are taken. */
    static int manyRegisters(ForwardHeap heap, int firstRegister, int words) {
        int taken = 0;
        for (int left = words; left > 0; left -= part(left)) {
            heap.alloc(firstRegister + taken, part(left) - SMALLEST, 0);
            taken++;
        }
        return taken;
    }

    /** Never so much that the rest would be a single word, which no object has. */
    private static int part(int left) {
        return left <= LARGEST ? left : left == LARGEST + 1 ? LARGEST - 1 : LARGEST;
    }
}
