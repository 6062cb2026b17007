import java.util.function.Consumer;

/**
 * "A call that throws changes nothing": every refusal that the document names, in every stage of a heap, with
 * the exception and all that the heap answers behind it; and the calls just inside of each bound are taken.
 */
public final class RefusedCallsTest {
    private static final Class<IndexOutOfBoundsException> INDEX = IndexOutOfBoundsException.class;
    private static final Class<IllegalStateException> STATE = IllegalStateException.class;
    private static final Class<IllegalArgumentException> ARGUMENT = IllegalArgumentException.class;

    private static final int[] NO_REGISTERS = {-1, 10, Integer.MIN_VALUE, Integer.MAX_VALUE};
    private static final int[] NO_FIELDS_OF_20 = {-1, 20, Integer.MIN_VALUE, Integer.MAX_VALUE};
    private static final int[] NO_FIELDS_OF_0 = {-1, 0, 1};
    private static final int[] EMPTY_REGISTERS = {2, 9};

    private static final Check CHECK = new Check();

    public static void main(String[] args) {
        stagesAreWhatTheirNamesSay();
        allocRegister();
        allocFields();
        moveRegisters();
        dropRegister();
        readRegisters();
        readOfNothing();
        readField();
        readOrder();
        writeRegisters();
        writeToNothing();
        writeField();
        writeOrder();
        tagRegister();
        tagOfNothing();
        sameRegisters();
        whereRegister();
        workUnits();
        regionNumber();
        CHECK.end();
    }

    private static void stagesAreWhatTheirNamesSay() {
        for (Stage stage : Stage.values()) {
            CHECK.due("phase of " + stage, stage.make().work(0), stage.phase);
            CHECK.due("two of one make " + stage, Aftermath.of(stage.make()).equals(Aftermath.of(stage.make())), true);
        }
        CHECK.due("wait in MARKING", Stage.MARKING.make().count(2), 3);
        CHECK.due("wait in MARKED", Stage.MARKED.make().count(2), 0);
        CHECK.due("moved in MOVING", Stage.MOVING.make().count(0), 0);
        CHECK.due("the set in MOVING", Stage.MOVING.make().region(0, 0), 4);
        CHECK.due("moved in MOVED", Stage.MOVED.make().count(0), 1);
        CHECK.due("failed in FAILED", Stage.FAILED.make().count(1), 1);
        CHECK.due("one unit behind LAST_REGION", Stage.LAST_REGION.make().work(1), 0);
        CHECK.due("active in FULL", Stage.FULL.make().region(2, 0), 1);
        CHECK.due("used in FULL", Stage.FULL.make().region(2, 1), 110);
    }

    private static void allocRegister() {
        taken("alloc(0)", heap -> heap.alloc(0, 1, 1));
        taken("alloc(9)", heap -> heap.alloc(9, 1, 1));
        for (int bad : NO_REGISTERS) {
            refused("alloc(" + bad + ", 20)", INDEX, heap -> heap.alloc(bad, 20, 1));
            refused("alloc(" + bad + ", 21): the register comes first", INDEX, heap -> heap.alloc(bad, 21, 1));
            refused("alloc(" + bad + ", -1): the register comes first", INDEX, heap -> heap.alloc(bad, -1, 1));
        }
    }

    private static void allocFields() {
        taken("0 fields", heap -> heap.alloc(3, 0, 1));
        taken("20 fields", heap -> heap.alloc(3, 20, 1));
        for (int bad : new int[] {-1, 21, -2, 126, 127, Integer.MIN_VALUE, Integer.MAX_VALUE}) {
            refused(bad + " fields", ARGUMENT, heap -> heap.alloc(0, bad, 1));
            refused(bad + " fields into an empty register", ARGUMENT, heap -> heap.alloc(9, bad, 1));
        }
    }

    private static void moveRegisters() {
        taken("move(0, 9)", heap -> heap.move(0, 9));
        taken("move(9, 0)", heap -> heap.move(9, 0));
        for (int bad : NO_REGISTERS) {
            refused("move(" + bad + ", 0)", INDEX, heap -> heap.move(bad, 0));
            refused("move(0, " + bad + ")", INDEX, heap -> heap.move(0, bad));
            refused("move twice " + bad, INDEX, heap -> heap.move(bad, bad));
        }
    }

    private static void dropRegister() {
        taken("drop(0)", heap -> heap.drop(0));
        taken("drop(9)", heap -> heap.drop(9));
        for (int bad : NO_REGISTERS) {
            refused("drop(" + bad + ")", INDEX, heap -> heap.drop(bad));
        }
    }

    private static void readRegisters() {
        taken("read(9, 0, 0)", heap -> heap.read(9, 0, 0));
        taken("read(0, 8, 0)", heap -> heap.read(0, 8, 0));
        for (int bad : NO_REGISTERS) {
            refused("read(" + bad + ", 0, 0)", INDEX, heap -> heap.read(bad, 0, 0));
            refused("read(0, " + bad + ", 0)", INDEX, heap -> heap.read(0, bad, 0));
        }
    }

    private static void readOfNothing() {
        taken("read into a register of nothing", heap -> heap.read(9, 0, 0));
        for (int empty : EMPTY_REGISTERS) {
            refused("read(0, " + empty + ", 0)", STATE, heap -> heap.read(0, empty, 0));
        }
    }

    private static void readField() {
        taken("read field 0 of 20", heap -> heap.read(1, 0, 0));
        taken("read field 19 of 20", heap -> heap.read(8, 0, 19));
        for (int bad : NO_FIELDS_OF_20) {
            refused("read field " + bad + " of 20", INDEX, heap -> heap.read(1, 0, bad));
        }
        for (int bad : NO_FIELDS_OF_0) {
            refused("read field " + bad + " of none", INDEX, heap -> heap.read(0, 1, bad));
        }
    }

    /** "IndexOutOfBoundsException (registers); IllegalStateException; IndexOutOfBoundsException (the field)". */
    private static void readOrder() {
        refused("no register before nothing", INDEX, heap -> heap.read(10, 9, 0));
        refused("no register before nothing and no field", INDEX, heap -> heap.read(-1, 9, 99));
        refused("nothing before no field", STATE, heap -> heap.read(0, 9, -1));
        refused("nothing before no field", STATE, heap -> heap.read(0, 9, 20));
    }

    private static void writeRegisters() {
        taken("write(0, 0, 9)", heap -> heap.write(0, 0, 9));
        taken("write(8, 0, 0)", heap -> heap.write(8, 0, 0));
        for (int bad : NO_REGISTERS) {
            refused("write(" + bad + ", 0, 0)", INDEX, heap -> heap.write(bad, 0, 0));
            refused("write(0, 0, " + bad + ")", INDEX, heap -> heap.write(0, 0, bad));
        }
    }

    private static void writeToNothing() {
        taken("write of nothing", heap -> heap.write(0, 0, 9));
        for (int empty : EMPTY_REGISTERS) {
            refused("write(" + empty + ", 0, 0)", STATE, heap -> heap.write(empty, 0, 0));
        }
    }

    private static void writeField() {
        taken("write field 0 of 20", heap -> heap.write(0, 0, 0));
        taken("write field 19 of 20", heap -> heap.write(0, 19, 8));
        for (int bad : NO_FIELDS_OF_20) {
            refused("write field " + bad + " of 20", INDEX, heap -> heap.write(0, bad, 8));
        }
        for (int bad : NO_FIELDS_OF_0) {
            refused("write field " + bad + " of none", INDEX, heap -> heap.write(1, bad, 8));
        }
    }

    /** "As read." */
    private static void writeOrder() {
        refused("no register before nothing", INDEX, heap -> heap.write(9, 0, 10));
        refused("no register before nothing and no field", INDEX, heap -> heap.write(9, 99, -1));
        refused("nothing before no field", STATE, heap -> heap.write(9, -1, 0));
        refused("nothing before no field", STATE, heap -> heap.write(9, 20, 0));
        refused("no field, of nothing to write", INDEX, heap -> heap.write(0, 20, 9));
    }

    private static void tagRegister() {
        taken("tag(0)", heap -> heap.tag(0));
        taken("tag(9)", heap -> {
            heap.move(9, 0);
            heap.tag(9);
        });
        for (int bad : NO_REGISTERS) {
            refused("tag(" + bad + ")", INDEX, heap -> heap.tag(bad));
        }
    }

    private static void tagOfNothing() {
        for (int empty : EMPTY_REGISTERS) {
            refused("tag(" + empty + ")", STATE, heap -> heap.tag(empty));
        }
    }

    private static void sameRegisters() {
        taken("same(0, 9)", heap -> heap.same(0, 9));
        taken("same(9, 0)", heap -> heap.same(9, 0));
        for (int bad : NO_REGISTERS) {
            refused("same(" + bad + ", 0)", INDEX, heap -> heap.same(bad, 0));
            refused("same(0, " + bad + ")", INDEX, heap -> heap.same(0, bad));
            refused("same twice " + bad, INDEX, heap -> heap.same(bad, bad));
        }
    }

    private static void whereRegister() {
        taken("where(0)", heap -> heap.where(0));
        taken("where(9)", heap -> heap.where(9));
        for (int bad : NO_REGISTERS) {
            refused("where(" + bad + ")", INDEX, heap -> heap.where(bad));
        }
    }

    private static void workUnits() {
        taken("work(0)", heap -> heap.work(0));
        taken("work(10000)", heap -> heap.work(10000));
        for (int bad : new int[] {-1, 10001, Integer.MIN_VALUE, Integer.MAX_VALUE}) {
            refused("work(" + bad + ")", ARGUMENT, heap -> heap.work(bad));
        }
    }

    private static void regionNumber() {
        taken("region(0)", heap -> heap.region(0, 0));
        taken("region(2)", heap -> heap.region(2, 0));
        for (int bad : new int[] {-1, 4, 16, Integer.MIN_VALUE, Integer.MAX_VALUE}) {
            for (int what = -1; what <= 3; what++) {
                int asked = what;
                refused("region(" + bad + ", " + what + ")", INDEX, heap -> heap.region(bad, asked));
            }
        }
        for (int regions = 3; regions <= 16; regions++) {
            ForwardHeap heap = new ForwardHeap(regions, 0);
            int beyond = regions;
            CHECK.due("the last region", heap.region(regions - 1, 0), 0);
            CHECK.refused("the one behind it", heap, INDEX, () -> heap.region(beyond, 0));
        }
    }

    private static void refused(String what, Class<? extends RuntimeException> kind, Consumer<ForwardHeap> call) {
        for (Stage stage : Stage.values()) {
            ForwardHeap heap = stage.make();
            Class<?> thrown = thrownBy(heap, call);
            CHECK.due(what + " in " + stage + " throws " + thrown, thrown == kind, true);
            CHECK.due(what + " in " + stage + " changes nothing",
                Aftermath.of(heap).equals(Aftermath.of(stage.make())), true);
        }
    }

    private static void taken(String what, Consumer<ForwardHeap> call) {
        for (Stage stage : Stage.values()) {
            Class<?> thrown = thrownBy(stage.make(), call);
            CHECK.due(what + " in " + stage + " throws " + thrown, thrown == null, true);
        }
    }

    private static Class<?> thrownBy(ForwardHeap heap, Consumer<ForwardHeap> call) {
        try {
            call.accept(heap);
            return null;
        } catch (RuntimeException e) {
            return e.getClass();
        }
    }
}
