import java.util.ArrayList;
import java.util.List;

/** Compares answers with those that are due, prints the others, and ends the program by them. */
final class Check {
    private int asked = 0;
    private int wrong = 0;

    void due(String what, long got, long want) {
        asked++;
        if (got != want) {
            wrong++;
            System.out.println(what + " answered " + got + ", due is " + want);
        }
    }

    void due(String what, boolean got, boolean want) {
        due(what, got ? 1 : 0, want ? 1 : 0);
    }

    /** The call throws just this exception, and nothing that can be asked for is other than before. */
    void refused(String what, ForwardHeap heap, Class<? extends RuntimeException> kind, Runnable call) {
        asked++;
        String before = stateOf(heap);
        String thrown = "nothing";
        try {
            call.run();
        } catch (RuntimeException e) {
            thrown = e.getClass().getSimpleName();
        }
        if (!thrown.equals(kind.getSimpleName())) {
            wrong++;
            System.out.println(what + " threw " + thrown + ", due is " + kind.getSimpleName());
        }
        String after = stateOf(heap);
        if (!after.equals(before)) {
            wrong++;
            System.out.println(what + " threw, but changed " + before + " to " + after);
        }
    }

    void end() {
        System.out.println(wrong == 0 ? asked + " answers are as due" : wrong + " answers are not as due");
        if (wrong != 0 || asked == 0) {
            System.exit(1);
        }
    }

    /** All that calls tell without changing anything. */
    static String stateOf(ForwardHeap heap) {
        List<Integer> state = new ArrayList<>();
        for (int register = 0; register < 10; register++) {
            int place = heap.where(register);
            state.add(place);
            state.add(place == ForwardHeap.NONE ? 0 : heap.tag(register));
        }
        int regions = regionsOf(heap);
        for (int i = 0; i < regions; i++) {
            for (int what = 0; what < 3; what++) {
                state.add(heap.region(i, what));
            }
        }
        for (int what = 0; what < 3; what++) {
            state.add(heap.count(what));
        }
        state.add(heap.work(0));
        return state.toString();
    }

    static int regionsOf(ForwardHeap heap) {
        for (int i = 0; i < 100; i++) {
            try {
                heap.region(i, 0);
            } catch (IndexOutOfBoundsException e) {
                return i;
            }
        }
        return 100;
    }
}
