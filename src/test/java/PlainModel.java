import java.util.ArrayList;
import java.util.Comparator;
import java.util.List;

/**
 * The document's words in their slowest form: every answer is found anew by going over all objects,
 * without cursors or cycle numbers. It stands beside ForwardHeap so that both can be compared.
 */
final class PlainModel {
    private static final class Obj {
        int place;
        int tag;
        Obj[] fields;
        boolean seen;
        boolean failed;

        int words() {
            return fields.length + 2;
        }

        int region() {
            return place / 128;
        }
    }

    private final int threshold;
    private final int[] kind;
    private final int[] used;
    private final Obj[] registers = new Obj[10];
    private final List<Obj> all = new ArrayList<>();
    private final List<Obj> row = new ArrayList<>();
    private int phase = 0;
    private int updated = 0;
    int moved = 0;
    int failed = 0;

    PlainModel(int regions, int threshold) {
        this.threshold = Math.max(0, Math.min(128, threshold));
        kind = new int[Math.max(3, Math.min(16, regions))];
        used = new int[kind.length];
    }

    int alloc(int register, int fields, int tag) {
        check(register);
        if (fields < 0 || fields > 20) {
            throw new IllegalArgumentException();
        }
        int words = fields + 2;
        int active = least(1);
        if (active >= 0 && used[active] + words > 128) {
            kind[active] = 3;
            active = -1;
        }
        if (active < 0 && least(0) < 0) {
            whole();
        }
        if (active < 0) {
            active = least(0);
        }
        if (active < 0) {
            return -1;
        }
        kind[active] = 1;
        Obj made = new Obj();
        made.tag = tag;
        made.fields = new Obj[fields];
        made.seen = phase != 0;
        put(made, active);
        all.add(made);
        registers[register] = made;
        return made.place;
    }

    int move(int to, int from) {
        check(to);
        check(from);
        registers[to] = registers[from];
        return 0;
    }

    int drop(int register) {
        check(register);
        int held = registers[register] == null ? 0 : 1;
        registers[register] = null;
        return held;
    }

    int read(int to, int from, int i) {
        check(to);
        check(from);
        Obj holder = holder(from, i);
        registers[to] = holder.fields[i];
        return registers[to] == null ? 0 : registers[to].tag;
    }

    int write(int register, int i, int from) {
        check(register);
        check(from);
        Obj holder = holder(register, i);
        Obj before = holder.fields[i];
        if (phase == 1 && before != null) {
            see(before);
        }
        if (phase == 2 && kind[holder.region()] == 4 && !holder.failed) {
            moveOut(holder);
        }
        holder.fields[i] = registers[from];
        return before == null ? 0 : before.tag;
    }

    int tag(int register) {
        check(register);
        if (registers[register] == null) {
            throw new IllegalStateException();
        }
        return registers[register].tag;
    }

    int same(int a, int b) {
        check(a);
        check(b);
        return registers[a] == registers[b] ? 1 : 0;
    }

    int where(int register) {
        check(register);
        return registers[register] == null ? -1 : registers[register].place;
    }

    int begin() {
        if (phase != 0) {
            return 0;
        }
        phase = 1;
        for (Obj object : all) {
            object.seen = false;
            object.failed = false;
        }
        for (Obj object : registers) {
            if (object != null) {
                see(object);
            }
        }
        return 1;
    }

    int work(int n) {
        if (n < 0 || n > 10000) {
            throw new IllegalArgumentException();
        }
        for (int k = 0; k < n; k++) {
            unit();
        }
        return phase;
    }

    int collect() {
        whole();
        int free = 0;
        for (int k : kind) {
            free += k == 0 ? 1 : 0;
        }
        return free;
    }

    int region(int i, int what) {
        if (i < 0 || i >= kind.length) {
            throw new IndexOutOfBoundsException();
        }
        return what == 0 ? kind[i] : what == 1 ? used[i] : what == 2 ? seenWords(i) : -1;
    }

    int count(int what) {
        return what == 0 ? moved : what == 1 ? failed : what == 2 ? row.size() : -1;
    }

    int regions() {
        return kind.length;
    }

    private void whole() {
        while (phase != 0) {
            unit();
        }
        begin();
        while (phase != 0) {
            unit();
        }
    }

    private void unit() {
        if (phase == 1 && !row.isEmpty()) {
            for (Obj value : row.remove(0).fields) {
                if (value != null) {
                    see(value);
                }
            }
        } else if (phase == 1) {
            for (int i = 0; i < kind.length; i++) {
                kind[i] = kind[i] == 3 && used[i] - seenWords(i) > threshold ? 4 : kind[i];
            }
            phase = 2;
        } else if (phase == 2) {
            Obj first = all.stream().filter(o -> kind[o.region()] == 4 && o.seen && !o.failed)
                .min(Comparator.comparingInt(o -> o.place)).orElse(null);
            if (first == null) {
                phase = 3;
                updated = 0;
            } else {
                moveOut(first);
            }
        } else if (phase == 3) {
            updated++;
            if (updated == kind.length) {
                end();
            }
        }
    }

    private void end() {
        for (int i = 0; i < kind.length; i++) {
            int at = i;
            if (kind[i] == 4 && all.stream().anyMatch(o -> o.region() == at && o.failed)) {
                kind[i] = 3;
            } else if (kind[i] == 4) {
                kind[i] = 0;
                used[i] = 0;
                all.removeIf(o -> o.region() == at);
            } else if (kind[i] == 2) {
                kind[i] = 3;
            }
        }
        phase = 0;
    }

    private void moveOut(Obj object) {
        int target = least(2);
        if (target < 0 || used[target] + object.words() > 128) {
            int free = least(0);
            if (free < 0) {
                object.failed = true;
                failed++;
                return;
            }
            if (target >= 0) {
                kind[target] = 3;
            }
            kind[free] = 2;
            target = free;
        }
        put(object, target);
        moved++;
    }

    private void put(Obj object, int region) {
        object.place = 128 * region + used[region];
        used[region] += object.words();
    }

    private void see(Obj object) {
        if (!object.seen) {
            object.seen = true;
            row.add(object);
        }
    }

    private int seenWords(int i) {
        return all.stream().filter(o -> o.region() == i && o.seen).mapToInt(Obj::words).sum();
    }

    private int least(int wanted) {
        for (int i = 0; i < kind.length; i++) {
            if (kind[i] == wanted) {
                return i;
            }
        }
        return -1;
    }

    private Obj holder(int register, int i) {
        if (registers[register] == null) {
            throw new IllegalStateException();
        }
        if (i < 0 || i >= registers[register].fields.length) {
            throw new IndexOutOfBoundsException();
        }
        return registers[register];
    }

    private static void check(int register) {
        if (register < 0 || register > 9) {
            throw new IndexOutOfBoundsException();
        }
    }
}
