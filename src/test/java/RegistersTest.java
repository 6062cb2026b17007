/** Promises 3 to 9: what registers and fields hold. */
public final class RegistersTest {
    private static final Class<IndexOutOfBoundsException> INDEX = IndexOutOfBoundsException.class;
    private static final Check CHECK = new Check();

    public static void main(String[] args) {
        moving();
        dropping();
        reading();
        writing();
        tags();
        sameness();
        places();
        CHECK.end();
    }

    private static void moving() {
        ForwardHeap heap = new ForwardHeap(3, 0);
        heap.alloc(0, 1, 5);
        heap.move(9, 0);
        CHECK.due("moved to 9", heap.where(9), 0);
        CHECK.due("still in 0", heap.where(0), 0);
        heap.move(9, 9);
        CHECK.due("moved to itself", heap.where(9), 0);
        heap.move(0, 4);
        CHECK.due("moved nothing", heap.where(0), -1);
        CHECK.due("9 keeps it", heap.where(9), 0);
    }

    private static void dropping() {
        ForwardHeap heap = new ForwardHeap(3, 0);
        heap.alloc(3, 0, 5);
        heap.move(4, 3);
        CHECK.due("drop of something", heap.drop(3), true);
        CHECK.due("drop of nothing", heap.drop(3), false);
        CHECK.due("3 is dropped", heap.where(3), -1);
        CHECK.due("4 is not", heap.where(4), 0);
    }

    private static void reading() {
        ForwardHeap heap = new ForwardHeap(3, 0);
        heap.alloc(0, 2, 5);
        heap.alloc(1, 0, -77);
        heap.write(0, 1, 1);
        CHECK.due("read answers the tag", heap.read(2, 0, 1), -77);
        CHECK.due("read holds it", heap.same(2, 1), true);
        CHECK.due("read of nothing", heap.read(2, 0, 0), 0);
        CHECK.due("read holds nothing", heap.where(2), -1);
        CHECK.due("read onto itself", heap.read(0, 0, 1), -77);
        CHECK.due("0 holds it then", heap.same(0, 1), true);
    }

    private static void writing() {
        ForwardHeap heap = new ForwardHeap(3, 0);
        heap.alloc(0, 20, 5);
        heap.alloc(1, 0, 6);
        CHECK.due("first write", heap.write(0, 19, 1), 0);
        CHECK.due("write over it", heap.write(0, 19, 0), 6);
        CHECK.due("it holds itself", heap.read(2, 0, 19), 5);
        CHECK.due("the same one", heap.same(2, 0), true);
        CHECK.due("write of nothing", heap.write(0, 19, 8), 5);
        CHECK.due("holds nothing", heap.read(2, 0, 19), 0);
        CHECK.due("others hold nothing", heap.read(2, 0, 18), 0);
        CHECK.due("the written register keeps", heap.where(1), 22);
        refusedWritesDoNotMarkOrMove();
    }

    private static void refusedWritesDoNotMarkOrMove() {
        ForwardHeap heap = new ForwardHeap(4, 0);
        heap.alloc(0, 20, 5);
        heap.alloc(1, 0, 6);
        heap.write(0, 0, 1);
        heap.drop(1);
        for (int k = 0; k < 5; k++) {
            heap.alloc(8, 20, 7);
        }
        heap.begin();
        CHECK.refused("write while it marks", heap, INDEX, () -> heap.write(0, 0, 10));
        CHECK.refused("write while it marks, no field", heap, INDEX, () -> heap.write(0, 20, 1));
        CHECK.due("phase", heap.work(4), 2);
        CHECK.due("region 0 is in the set", heap.region(0, 0), 4);
        CHECK.refused("write while it moves", heap, INDEX, () -> heap.write(0, 0, 10));
        CHECK.refused("write while it moves, no field", heap, INDEX, () -> heap.write(0, 20, 1));
        CHECK.due("it is not moved", heap.where(0), 0);
    }

    private static void tags() {
        ForwardHeap heap = new ForwardHeap(3, 0);
        for (int tag : new int[] {0, 1, -1, Integer.MIN_VALUE, Integer.MAX_VALUE}) {
            heap.alloc(9, 0, tag);
            CHECK.due("tag", heap.tag(9), tag);
        }
    }

    private static void sameness() {
        ForwardHeap heap = new ForwardHeap(3, 0);
        heap.alloc(0, 1, 5);
        heap.alloc(1, 1, 5);
        heap.move(2, 0);
        CHECK.due("two of one make", heap.same(0, 1), false);
        CHECK.due("one object", heap.same(0, 2), true);
        CHECK.due("one register", heap.same(1, 1), true);
        CHECK.due("both nothing", heap.same(5, 6), true);
        CHECK.due("nothing and something", heap.same(5, 0), false);
        CHECK.due("something and nothing", heap.same(0, 5), false);
    }

    private static void places() {
        ForwardHeap heap = new ForwardHeap(3, 0);
        CHECK.due("where of nothing", heap.where(0), -1);
        for (int k = 0; k < 6; k++) {
            heap.alloc(k, 20, k);
        }
        CHECK.due("where", heap.where(4), 88);
        CHECK.due("where in the next region", heap.where(5), 128);
    }
}
