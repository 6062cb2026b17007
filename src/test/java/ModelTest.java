import java.util.Random;
import java.util.function.IntSupplier;

/**
 * All promises at once: long runs of drawn calls answer as the plain model does, and all that the heap tells
 * behind them is as the model tells it. No heap is used for more than 512 calls, as no more is promised.
 */
public final class ModelTest {
    private static final int RUNS = 8000;
    private static final int CALLS = 512;
    /** Of 16 regions five whats, ten registers, five counts, the phase. */
    private static final int CALLS_OF_STATE = 96;
    private static final Check CHECK = new Check();

    private static long moved = 0;
    private static long failed = 0;
    private static long refusedAllocs = 0;

    public static void main(String[] args) {
        for (int run = 0; run < RUNS; run++) {
            compare(run);
        }
        CHECK.due("objects were moved", moved > 0, true);
        CHECK.due("objects failed", failed > 0, true);
        CHECK.due("allocs found no room", refusedAllocs > 0, true);
        System.out.println(moved + " moved, " + failed + " not, " + refusedAllocs + " allocs without room");
        CHECK.end();
    }

    private static void compare(int run) {
        Random random = new Random(run);
        int regions = 2 + random.nextInt(random.nextBoolean() ? 3 : 16);
        int threshold = random.nextInt(3) == 0 ? 0 : random.nextInt(135) - 3;
        int allocs = 1 + random.nextInt(8);
        int units = 1 + random.nextInt(12);
        ForwardHeap heap = new ForwardHeap(regions, threshold);
        PlainModel model = new PlainModel(regions, threshold);
        int calls = run % 2 == 0 ? CALLS - CALLS_OF_STATE : random.nextInt(CALLS - CALLS_OF_STATE);
        for (int call = 0; call < calls; call++) {
            step("run " + run + ", call " + call, random, heap, model, allocs, units);
        }
        compareState("behind run " + run, heap, model);
        moved += model.moved;
        failed += model.failed;
    }

    private static void step(String at, Random random, ForwardHeap heap, PlainModel model, int allocs, int units) {
        int a = register(random);
        int b = register(random);
        int i = random.nextInt(30) == 0 ? random.nextInt(24) - 2 : random.nextInt(4);
        int fields = random.nextInt(40) == 0 ? random.nextInt(26) - 2 : random.nextInt(21);
        int n = random.nextInt(60) == 0 ? random.nextInt(20100) - 50 : random.nextInt(units);
        int tag = random.nextInt(100) - 20;
        int what = random.nextInt(5) - 1;
        int kind = random.nextInt(18 + allocs);
        switch (kind) {
            case 0 -> both(at + " move", () -> { heap.move(a, b); return 0; }, () -> model.move(a, b));
            case 1 -> both(at + " drop", () -> heap.drop(a) ? 1 : 0, () -> model.drop(a));
            case 2, 3 -> both(at + " read", () -> heap.read(a, b, i), () -> model.read(a, b, i));
            case 4, 5, 6, 7 -> both(at + " write", () -> heap.write(a, i, b), () -> model.write(a, i, b));
            case 8 -> both(at + " tag", () -> heap.tag(a), () -> model.tag(a));
            case 9 -> both(at + " same", () -> heap.same(a, b) ? 1 : 0, () -> model.same(a, b));
            case 10 -> both(at + " begin", heap::begin, model::begin);
            case 11, 12 -> both(at + " work", () -> heap.work(n), () -> model.work(n));
            case 13 -> both(at + " where", () -> heap.where(a), () -> model.where(a));
            case 14, 15 -> both(at + " region", () -> heap.region(a, what), () -> model.region(a, what));
            case 16 -> both(at + " count", () -> heap.count(what), () -> model.count(what));
            case 17 -> {
                if (tag > 70) {
                    both(at + " collect", heap::collect, model::collect);
                }
            }
            default -> {
                long got = both(at + " alloc", () -> heap.alloc(a, fields, tag), () -> model.alloc(a, fields, tag));
                refusedAllocs += got == -1 ? 1 : 0;
            }
        }
    }

    private static void compareState(String at, ForwardHeap heap, PlainModel model) {
        for (int register = 0; register < 10; register++) {
            CHECK.due(at + " where " + register, heap.where(register), model.where(register));
        }
        for (int region = 0; region < model.regions(); region++) {
            for (int what = -1; what < 4; what++) {
                CHECK.due(at + " region " + region + " " + what, heap.region(region, what), model.region(region, what));
            }
        }
        for (int what = -1; what < 4; what++) {
            CHECK.due(at + " count " + what, heap.count(what), model.count(what));
        }
        CHECK.due(at + " phase", heap.work(0), model.work(0));
    }

    private static int register(Random random) {
        return random.nextInt(40) == 0 ? random.nextInt(14) - 2 : random.nextInt(10);
    }

    private static long both(String what, IntSupplier heap, IntSupplier model) {
        long got = answer(heap);
        CHECK.due(what, got, answer(model));
        return got;
    }

    /** Exceptions are answers beyond all int answers, and only just those that the document names. */
    private static long answer(IntSupplier call) {
        try {
            return call.getAsInt();
        } catch (RuntimeException e) {
            return e.getClass() == IndexOutOfBoundsException.class ? 1L << 40
                : e.getClass() == IllegalArgumentException.class ? 1L << 41
                : e.getClass() == IllegalStateException.class ? 1L << 42
                : 1L << 43;
        }
    }
}
