import java.util.ArrayList;
import java.util.List;

/**
 * "What is refused changes nothing": each refused call is tried at each place of a lively run, in a house of its own,
 * and all that the run's later calls answer, and all that can be asked at its end, is as in a house without it.
 */
public final class RefusalTest {
    private static final int MIN = Integer.MIN_VALUE;
    private static final int MAX = Integer.MAX_VALUE;
    /** No object is used for more calls than this. */
    private static final int MOST_CALLS = 512;

    public static void main(String[] args) {
        List<Call> run = livelyRun();
        theRunIsLively(run);
        program(run);
        step(run);
        stepOfAFullProgram(run);
        act(run);
        actOfAFullHouse();
        limit(run);
        floor(run);
        floorAboveWhatIsToCome();
        go(run);
        fall(run);
        told(run);
        register(run);
        holds(run);
        value(run);
        done(run);
        log(run);
        count(run);
        Due.end("RefusalTest");
    }

    private static void lay(List<Call> run, int program, int... steps) {
        for (int step : steps) {
            run.add(Call.of("step", program, step));
        }
    }

    /** Rings, shared counters, queued acts, a stopped one, keepings and falls, in few calls and ticks. */
    private static List<Call> livelyRun() {
        List<Call> run = new ArrayList<>();
        lay(run, 0, Due.read(0), Due.add(1), Due.write(0), Due.write(1));
        lay(run, 1, Due.hot(0, -2), Due.write(1), Due.sum(0), Due.write(0), Due.queue(2));
        lay(run, 2, Due.set(-3), Due.skip(1), Due.check(), Due.hot(0, 5), Due.write(2));
        lay(run, 3, Due.set(-1), Due.write(3), Due.check());
        for (int i = 0; i < 12; i++) {
            run.add(Call.of("step", 7, Due.add(i)));
        }
        run.add(Call.of("limit", 1, 2));
        run.add(Call.of("floor", 0, -4));
        run.add(Call.of("act", 0, 0, 2));
        run.add(Call.of("act", 1, 1, 4));
        run.add(Call.of("act", 1, 1, 4));
        run.add(Call.of("go", 2));
        run.add(Call.of("act", 3, 2, 0));
        run.add(Call.of("act", 6, 2, 0));
        run.add(Call.of("go", 2));
        run.add(Call.of("go", 1));
        run.add(Call.of("act", 7, 3, 9));
        run.add(Call.of("go", 3));
        run.add(Call.of("go", 1));
        run.add(Call.of("fall", 1));
        run.add(Call.of("go", 2));
        run.add(Call.of("program", 3));
        run.add(Call.of("go", 3));
        run.add(Call.of("go", 9));
        run.add(Call.of("fall", 0));
        run.add(Call.of("go", 9));
        return run;
    }

    private static void theRunIsLively(List<Call> run) {
        ActHouse house = new ActHouse();
        for (Call call : run) {
            Due.same(call + " is not refused", call.on(house) == -1, false);
        }
        Due.same("rings", house.count(7) > 0, true);
        Due.same("falls", house.count(8), 2);
        Due.same("done", house.count(6) > 3, true);
        Due.same("waiting", house.count(4) > 0, true);
        Due.same("queued", house.told(house.count(1) - 1, 8) >= 0, true);
    }

    /** What all can be asked of a house after the run, in so few calls that they are promised. */
    private static List<Call> questions(ActHouse house) {
        List<Call> all = new ArrayList<>();
        for (int what = 0; what <= 8; what++) {
            all.add(Call.of("count", what));
        }
        for (int act = 0; act < house.count(1); act++) {
            for (int what = 0; what <= 9; what++) {
                all.add(Call.of("told", act, what));
            }
            all.add(Call.of("register", act));
            all.add(Call.of("holds", act, act % 4));
            all.add(Call.of("done", act));
        }
        for (int i = 0; i < house.count(2); i++) {
            for (int what = 0; what <= 3; what++) {
                all.add(Call.of("log", i, what));
            }
        }
        for (int place : new int[] {0, 1, 2, 3, 24}) {
            for (int tick = 0; tick <= house.count(0); tick += 3) {
                all.add(Call.of("value", place, tick));
            }
            all.add(Call.of("value", place, house.count(0)));
        }
        // hidden until now: the limits, the floors and how long the programs are
        all.add(Call.of("floor", 0, 0));
        for (int program = 0; program < 8; program++) {
            all.add(Call.of("step", program, Due.set(1)));
        }
        for (int kind = 0; kind < 4; kind++) {
            all.add(Call.of("act", 0, kind, 0));
            all.add(Call.of("act", 7, kind, 0));
            all.add(Call.of("act", 0, kind, 0));
            all.add(Call.of("act", 0, kind, 0));
        }
        all.add(Call.of("go", 1));
        all.add(Call.of("count", 5));
        all.add(Call.of("go", 30));
        all.add(Call.of("count", 2));
        all.add(Call.of("count", 6));
        all.add(Call.of("count", 7));
        return all;
    }

    private static List<Call> whole(List<Call> run) {
        ActHouse house = new ActHouse();
        for (Call call : run) {
            call.on(house);
        }
        List<Call> all = new ArrayList<>(run);
        all.addAll(questions(house));
        Due.same("calls of an object: " + all.size(), all.size() < MOST_CALLS, true);
        return all;
    }

    /** Tries the call before each call of the run, and behind the last of them, each time in a new house. */
    private static void refused(List<Call> run, Call call, int due) {
        List<Call> all = whole(run);
        for (int place = 0; place <= run.size(); place++) {
            refusedAt(all, place, call, due);
        }
    }

    private static void refusedAt(List<Call> all, int place, Call call, int due) {
        ActHouse tried = new ActHouse();
        ActHouse spared = new ActHouse();
        for (int i = 0; i < all.size(); i++) {
            if (i == place) {
                Due.same(call + " before call " + i, call.on(tried), due);
            }
            Due.same(all.get(i) + " with " + call + " before call " + place, all.get(i).on(tried),
                all.get(i).on(spared));
        }
    }

    /** "false if there is none such" */
    private static void program(List<Call> run) {
        for (int program : new int[] {-1, 8, 9, 80, MIN, MAX}) {
            refused(run, Call.of("program", program), 0);
        }
    }

    /** "NONE if there is none such, .. or it can't be" */
    private static void step(List<Call> run) {
        for (int program : new int[] {-1, 8, MIN, MAX}) {
            refused(run, Call.of("step", program, Due.set(1)), -1);
        }
        for (int step : new int[] {-1, -10000, MIN, MAX, 90000, 99999, 100000, 2400, 9900, 32400, 42400, 60800, 70800}) {
            refused(run, Call.of("step", 0, step), -1);
        }
    }

    /** "it has 12": program 7, once the run has laid it. */
    private static void stepOfAFullProgram(List<Call> run) {
        List<Call> all = whole(run);
        int full = run.indexOf(Call.of("limit", 1, 2));
        for (int place = full; place <= run.size(); place++) {
            refusedAt(all, place, Call.of("step", 7, Due.set(1)), -1);
        }
    }

    /** "NONE if there is no such PROGRAM, CLASS, RANK" */
    private static void act(List<Call> run) {
        for (int program : new int[] {-1, 8, MIN, MAX}) {
            refused(run, Call.of("act", program, 0, 0), -1);
        }
        for (int kind : new int[] {-1, 4, MIN, MAX}) {
            refused(run, Call.of("act", 0, kind, 0), -1);
        }
        for (int rank : new int[] {-1, 10, MIN, MAX}) {
            refused(run, Call.of("act", 0, 0, rank), -1);
        }
    }

    /** "or 80 came" */
    private static void actOfAFullHouse() {
        ActHouse house = new ActHouse();
        Due.lay(house, 0, Due.set(7), Due.write(0));
        for (int i = 0; i < 80; i++) {
            Due.same("act " + i, house.act(i == 79 ? 0 : 1, 0, 9), i);
        }
        Due.same("act 80", house.act(0, 0, 0), -1);
        Due.same("acts", house.count(1), 80);
        Due.same("waiting", house.count(4), 80);
        Due.same("none has the number", house.told(80, 0), -1);
        Due.same("go", house.go(3), 3);
        Due.same("it did not run", house.count(2), 3);
        Due.same("act 79 did", house.done(0), 79);
        Due.same("full still", house.act(0, 0, 0), -1);
        Due.same("acts still", house.count(1), 80);
    }

    /** "false if there is none such, or it can't be" */
    private static void limit(List<Call> run) {
        for (int kind : new int[] {-1, 4, MIN, MAX}) {
            refused(run, Call.of("limit", kind, 1), 0);
        }
        for (int many : new int[] {-1, 10, MIN, MAX}) {
            refused(run, Call.of("limit", 1, many), 0);
        }
    }

    /** "false if there is none such, it can't be" */
    private static void floor(List<Call> run) {
        for (int counter : new int[] {-1, 8, 24, MIN, MAX}) {
            refused(run, Call.of("floor", counter, 0), 0);
        }
        for (int floor : new int[] {1, -1001, MIN, MAX}) {
            refused(run, Call.of("floor", 0, floor), 0);
        }
    }

    /** "or its value (with what is below 0 to come) is below it": the floor stays where it was. */
    private static void floorAboveWhatIsToCome() {
        ActHouse house = new ActHouse();
        Due.lay(house, 0, Due.hot(0, -6), Due.set(0));
        Due.lay(house, 1, Due.hot(0, -4));
        Due.same("floor", house.floor(0, -10), true);
        house.act(0, 0, 0);
        house.go(2);
        Due.same("above what is to come", house.floor(0, -5), false);
        house.act(1, 0, 0);
        house.go(2);
        Due.same("-10 can be still", house.value(24, 4), -10);
        Due.same("above what is", house.floor(0, -9), false);
        house.act(1, 0, 0);
        house.go(2);
        Due.same("-14 can't be yet", house.told(2, 5), 1);
        Due.same("the value", house.value(24, 6), -10);
    }

    /** "NONE for another n" */
    private static void go(List<Call> run) {
        for (int n : new int[] {-1, -200, 201, 5000, MIN, MAX}) {
            refused(run, Call.of("go", n), -1);
        }
    }

    /** "NONE if there are not so many, or k is below 0" */
    private static void fall(List<Call> run) {
        for (int k : new int[] {-1, -2, MIN, MAX, 1000}) {
            refused(run, Call.of("fall", k), -1);
        }
        List<Call> all = whole(run);
        ActHouse house = new ActHouse();
        for (int place = 0; place < run.size(); place++) {
            refusedAt(all, place, Call.of("fall", house.count(2) - house.count(3) + 1), -1);
            run.get(place).on(house);
        }
    }

    /** Asks at each place for what is one beyond what there is, by the house as it is there. */
    private static void refusedBeyond(List<Call> run, int counted, String name, int b, int due) {
        List<Call> all = whole(run);
        ActHouse house = new ActHouse();
        for (int place = 0; place < run.size(); place++) {
            refusedAt(all, place, Call.of(name, house.count(counted), b), due);
            run.get(place).on(house);
        }
    }

    /** "NONE for others, or if there is none such" */
    private static void told(List<Call> run) {
        for (int what : new int[] {-1, 10, 11, MIN, MAX}) {
            refused(run, Call.of("told", 0, what), -1);
        }
        for (int act : new int[] {-1, 80, MIN, MAX}) {
            refused(run, Call.of("told", act, 0), -1);
        }
        refusedBeyond(run, 1, "told", 0, -1);
    }

    /** "-2147483648 if there is none such" */
    private static void register(List<Call> run) {
        for (int act : new int[] {-1, 80, MIN, MAX}) {
            refused(run, Call.of("register", act), MIN);
        }
        refusedBeyond(run, 1, "register", 0, MIN);
    }

    /** "NONE if there is none such" */
    private static void holds(List<Call> run) {
        for (int act : new int[] {-1, 80, MIN, MAX}) {
            refused(run, Call.of("holds", act, 0), -1);
        }
        for (int cell : new int[] {-1, 24, 31, MIN, MAX}) {
            refused(run, Call.of("holds", 0, cell), -1);
        }
        refusedBeyond(run, 1, "holds", 0, -1);
    }

    /** "-2147483648 if there is none such" */
    private static void value(List<Call> run) {
        for (int cell : new int[] {-1, 32, MIN, MAX}) {
            refused(run, Call.of("value", cell, 0), MIN);
        }
        for (int tick : new int[] {-1, 5001, MIN, MAX}) {
            refused(run, Call.of("value", 0, tick), MIN);
        }
        List<Call> all = whole(run);
        ActHouse house = new ActHouse();
        for (int place = 0; place < run.size(); place++) {
            refusedAt(all, place, Call.of("value", 0, house.count(0) + 1), MIN);
            run.get(place).on(house);
        }
    }

    /** "NONE if there is none such" */
    private static void done(List<Call> run) {
        for (int i : new int[] {-1, 80, MIN, MAX}) {
            refused(run, Call.of("done", i), -1);
        }
        refusedBeyond(run, 6, "done", 0, -1);
    }

    /** "NONE for others, or if there is none such" */
    private static void log(List<Call> run) {
        for (int i : new int[] {-1, 1000, MIN, MAX}) {
            refused(run, Call.of("log", i, 0), -1);
        }
        for (int what : new int[] {-1, 4, MIN, MAX}) {
            refused(run, Call.of("log", 0, what), -1);
        }
        refusedBeyond(run, 2, "log", 0, -1);
    }

    /** "NONE for others" */
    private static void count(List<Call> run) {
        for (int what : new int[] {-1, 9, 10, MIN, MAX}) {
            refused(run, Call.of("count", what), -1);
        }
    }
}
