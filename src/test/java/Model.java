import java.util.ArrayList;
import java.util.Comparator;
import java.util.HashSet;
import java.util.List;
import java.util.Map;
import java.util.Set;
import java.util.TreeMap;

/**
 * ActHouse once more, told from the document in the plainest way: values are never stored, but told anew from the
 * done acts each time, and rings are found by walking. ModelTest compares the two.
 */
final class Model {
    static final class Entry {
        int kind;
        int act;
        int cell;
        int tick;
    }

    static final class One {
        int number;
        int program;
        int kind;
        int rank;
        int by = -1;
        int state;
        int undone;
        int begunTick = -1;
        int doneTick = -1;
        boolean held;
        Entry end;
        List<Integer> steps = new ArrayList<>();
        int at;
        int register;
        Set<Integer> reads = new HashSet<>();
        Map<Integer, Integer> writes = new TreeMap<>();
        List<int[]> hots = new ArrayList<>();
        List<Integer> queued = new ArrayList<>();

        void forget() {
            end = null;
            doneTick = -1;
            reads.clear();
            writes.clear();
            hots.clear();
            queued.clear();
        }
    }

    final List<List<Integer>> programs = new ArrayList<>();
    final List<One> acts = new ArrayList<>();
    final List<One> doneOnes = new ArrayList<>();
    List<Entry> entries = new ArrayList<>();
    final int[] limits = {3, 3, 3, 3};
    final int[] floors = new int[8];
    int kept;
    int now;
    int rings;
    int falls;

    Model() {
        for (int i = 0; i < 8; i++) {
            programs.add(new ArrayList<>());
        }
    }

    boolean program(int program) {
        if (program < 0 || program > 7) {
            return false;
        }
        programs.get(program).clear();
        return true;
    }

    int step(int program, int step) {
        if (program < 0 || program > 7 || step < 0 || step > 89999 || programs.get(program).size() == 12) {
            return -1;
        }
        int op = step / 10000;
        int a = step / 100 % 100;
        boolean cell = op == 0 || op == 3 || op == 4;
        if (cell && a > 23 || (op == 6 || op == 7) && a > 7) {
            return -1;
        }
        programs.get(program).add(step);
        return programs.get(program).size();
    }

    int act(int program, int kind, int rank) {
        if (program < 0 || program > 7 || kind < 0 || kind > 3 || rank < 0 || rank > 9) {
            return -1;
        }
        return come(program, kind, rank, -1);
    }

    private int come(int program, int kind, int rank, int by) {
        if (acts.size() == 80) {
            return -1;
        }
        One one = new One();
        one.number = acts.size();
        one.program = program;
        one.kind = kind;
        one.rank = rank;
        one.by = by;
        acts.add(one);
        return one.number;
    }

    boolean limit(int kind, int many) {
        if (kind < 0 || kind > 3 || many < 0 || many > 9) {
            return false;
        }
        limits[kind] = many;
        return true;
    }

    boolean floor(int counter, int floor) {
        if (counter < 0 || counter > 7 || floor < -1000 || floor > 0 || lowest(counter) < floor) {
            return false;
        }
        floors[counter] = floor;
        return true;
    }

    private int lowest(int counter) {
        int lowest = valueOf(24 + counter, now);
        for (One one : inState(1)) {
            for (int[] hot : one.hots) {
                if (hot[0] == counter && hot[1] < 0) {
                    lowest += hot[1];
                }
            }
        }
        return lowest;
    }

    private int valueOf(int place, int tick) {
        int value = 0;
        for (One one : doneOnes) {
            if (one.doneTick > tick) {
                continue;
            }
            if (place < 24) {
                value = one.writes.getOrDefault(place, value);
            }
            for (int[] hot : one.hots) {
                value += hot[0] + 24 == place ? hot[1] : 0;
            }
        }
        return value;
    }

    private List<One> inState(int state) {
        List<One> found = new ArrayList<>();
        for (One one : acts) {
            if (one.state == state) {
                found.add(one);
            }
        }
        found.sort(Comparator.comparingInt((One one) -> one.rank).thenComparingInt(one -> one.number));
        return found;
    }

    private Entry note(int kind, One one, int cell) {
        Entry entry = new Entry();
        entry.kind = kind;
        entry.act = one.number;
        entry.cell = cell;
        entry.tick = now;
        entries.add(entry);
        return entry;
    }

    int go(int n) {
        if (n < 0 || n > 200) {
            return -1;
        }
        int till = Math.min(5000, now + n);
        while (now < till) {
            tick();
        }
        return now;
    }

    private void tick() {
        for (One one : acts) {
            one.held = false;
        }
        for (One one : inState(1)) {
            stepOf(one);
        }
        for (One last = lastInRings(); last != null; last = lastInRings()) {
            note(4, last, -1);
            last.forget();
            last.state = 0;
            last.undone++;
            rings++;
        }
        for (One one : inState(0)) {
            long begun = inState(1).stream().filter(other -> other.kind == one.kind).count();
            if (begun < limits[one.kind] && !programs.get(one.program).isEmpty()) {
                one.state = 1;
                one.steps = new ArrayList<>(programs.get(one.program));
                one.at = 0;
                one.register = 0;
                one.begunTick = now;
                note(0, one, -1);
            }
        }
        if (now % 4 == 3) {
            keep();
        }
        now++;
    }

    private void keep() {
        kept = entries.size();
        for (One one : inState(2)) {
            one.state = 3;
        }
    }

    private Set<One> blockers(One one) {
        Set<One> found = new HashSet<>();
        int step = one.steps.get(one.at);
        int op = step / 10000;
        int cell = step / 100 % 100;
        if (op != 0 && op != 3 && op != 4) {
            return found;
        }
        for (One other : inState(1)) {
            boolean writes = other.writes.containsKey(cell);
            boolean reads = other.reads.contains(cell);
            if (other != one && (writes || op == 3 && reads)) {
                found.add(other);
            }
        }
        return found;
    }

    private One lastInRings() {
        One last = null;
        for (One one : inState(1)) {
            if (waitsForItself(one) && (last == null || one.begunTick > last.begunTick
                || one.begunTick == last.begunTick && one.number > last.number)) {
                last = one;
            }
        }
        return last;
    }

    private boolean waitsForItself(One one) {
        Set<One> seen = new HashSet<>();
        List<One> front = new ArrayList<>(List.of(one));
        while (!front.isEmpty()) {
            One next = front.remove(front.size() - 1);
            if (!next.held) {
                continue;
            }
            for (One other : blockers(next)) {
                if (other == one) {
                    return true;
                }
                if (seen.add(other)) {
                    front.add(other);
                }
            }
        }
        return false;
    }

    private void stepOf(One one) {
        int step = one.steps.get(one.at);
        int op = step / 10000;
        int a = step / 100 % 100;
        int b = step % 100 - 50;
        if (!blockers(one).isEmpty() || op == 6 && b < 0 && lowest(a) + b < floors[a]) {
            one.held = true;
            return;
        }
        int register = one.register;
        int next = one.at + 1;
        boolean stops = false;
        if (op == 0 || op == 4) {
            one.reads.add(a);
            register = (op == 4 ? register : 0) + one.writes.getOrDefault(a, valueOf(a, now));
        } else if (op == 1) {
            register = b;
        } else if (op == 2) {
            register += b;
        } else if (op == 3) {
            one.writes.put(a, register);
            note(1, one, a);
        } else if (op == 5) {
            stops = register < 0;
        } else if (op == 6) {
            one.hots.add(new int[] {a, b});
        } else if (op == 7) {
            one.queued.add(a);
        } else if (register < 0) {
            next += b + 50;
        }
        if (stops || Math.abs(register) > 1000000) {
            one.forget();
            one.state = 4;
            one.end = note(3, one, -1);
            return;
        }
        one.register = register;
        one.at = next;
        if (next >= one.steps.size()) {
            one.state = 2;
            one.doneTick = now;
            one.end = note(2, one, -1);
            doneOnes.add(one);
            for (int program : one.queued) {
                come(program, one.kind, one.rank, one.number);
            }
        }
    }

    int fall(int k) {
        if (k < 0 || k > entries.size() - kept) {
            return -1;
        }
        falls++;
        List<Entry> left = new ArrayList<>(entries.subList(0, kept + k));
        Set<One> lost = new HashSet<>();
        for (One one : doneOnes) {
            if (!left.contains(one.end)) {
                lost.add(one);
            }
        }
        for (One one : acts) {
            if (one.by >= 0 && lost.contains(acts.get(one.by))) {
                one.forget();
                one.state = 4;
            } else if (one.state == 1 || lost.contains(one)) {
                one.forget();
                one.state = 0;
                one.undone++;
            } else if (one.state == 4 && one.end != null && !left.contains(one.end)) {
                one.forget();
                one.state = 0;
            }
        }
        doneOnes.removeAll(lost);
        entries = left;
        keep();
        return lost.size();
    }

    int told(int act, int what) {
        if (act < 0 || act >= acts.size()) {
            return -1;
        }
        One one = acts.get(act);
        int[] all = {one.state, one.program, one.kind, one.rank, one.state == 1 ? one.at : -1,
            one.state == 1 && one.held ? 1 : 0, one.doneTick, one.undone, one.by, one.begunTick};
        return what < 0 || what > 9 ? -1 : all[what];
    }

    int register(int act) {
        boolean begun = act >= 0 && act < acts.size() && acts.get(act).state == 1;
        return begun ? acts.get(act).register : Integer.MIN_VALUE;
    }

    int holds(int act, int cell) {
        if (act < 0 || act >= acts.size() || cell < 0 || cell > 23) {
            return -1;
        }
        One one = acts.get(act);
        if (one.state != 1) {
            return 0;
        }
        return one.writes.containsKey(cell) ? 2 : one.reads.contains(cell) ? 1 : 0;
    }

    int value(int cell, int tick) {
        return cell < 0 || cell > 31 || tick < 0 || tick > now ? Integer.MIN_VALUE : valueOf(cell, tick);
    }

    int done(int i) {
        return i < 0 || i >= doneOnes.size() ? -1 : doneOnes.get(i).number;
    }

    int log(int i, int what) {
        if (i < 0 || i >= entries.size() || what < 0 || what > 3) {
            return -1;
        }
        Entry entry = entries.get(i);
        return new int[] {entry.kind, entry.act, entry.cell, entry.tick}[what];
    }

    int count(int what) {
        int[] all = {now, acts.size(), entries.size(), kept, inState(0).size(), inState(1).size(), doneOnes.size(),
            rings, falls};
        return what < 0 || what > 8 ? -1 : all[what];
    }
}
