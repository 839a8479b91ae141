import java.util.Random;

/** Drawn runs of calls, each answered by ActHouse and by the plain model; the seeds are fixed. */
public final class ModelTest {
    private static final int RUNS = 600;
    private static final int CALLS = 512;
    private static int undoneByFalls = 0;
    private static int ringsBroken = 0;

    public static void main(String[] args) {
        for (int seed = 0; seed < RUNS; seed++) {
            run(seed);
        }
        // Runs in which nothing happens would compare nothing.
        System.out.println(ringsBroken + " rings broken, " + undoneByFalls + " done acts undone by falls");
        Due.same("some rings were broken", ringsBroken > 1000, true);
        Due.same("some done acts were undone", undoneByFalls > 500, true);
        Due.end("ModelTest");
    }

    private static void run(int seed) {
        Random random = new Random(seed);
        ActHouse house = new ActHouse();
        Model model = new Model();
        int cells = 1 + random.nextInt(seed % 2 == 0 ? 4 : 24);
        int calls = seed % 3 == 0 ? 120 : CALLS;
        for (int call = 0; call < calls; call++) {
            if (call < 40 || random.nextInt(10) < 3) {
                layStep(random, house, model, cells, seed + ": " + call + ": ");
            } else {
                change(random, house, model, seed + ": " + call + ": ");
            }
            ask(random, house, model, seed + ": " + call + ": ");
        }
        ringsBroken += model.rings;
        compareAll(house, model, "seed " + seed + ": ");
    }

    private static int drawnStep(Random random, int cells) {
        int[] ops = {0, 0, 1, 2, 3, 3, 3, 4, 4, 5, 6, 6, 7, 8};
        int op = random.nextInt(40) == 0 ? 9 : ops[random.nextInt(ops.length)];
        int a = op == 6 || op == 7 ? random.nextInt(random.nextInt(30) == 0 ? 10 : 3) : random.nextInt(cells);
        if (random.nextInt(60) == 0) {
            a = random.nextInt(100);
        }
        int b = op == 8 ? random.nextInt(5) : random.nextInt(3) == 0 ? random.nextInt(100) : 40 + random.nextInt(22);
        return op * 10000 + a * 100 + b;
    }

    private static void layStep(Random random, ActHouse house, Model model, int cells, String when) {
        int program = random.nextInt(40) == 0 ? random.nextInt(12) - 2 : random.nextInt(8);
        if (random.nextInt(12) == 0) {
            Due.same(when + "program(" + program + ")", house.program(program), model.program(program));
            return;
        }
        int step = drawnStep(random, cells);
        Due.same(when + "step(" + program + ", " + step + ")", house.step(program, step), model.step(program, step));
    }

    private static void change(Random random, ActHouse house, Model model, String when) {
        switch (random.nextInt(9)) {
            case 0:
            case 1:
            case 2:
                int program = random.nextInt(9) - random.nextInt(2);
                int kind = random.nextInt(30) == 0 ? 4 : random.nextInt(4);
                int rank = random.nextInt(30) == 0 ? 10 : random.nextInt(3) * 4;
                Due.same(when + "act", house.act(program, kind, rank), model.act(program, kind, rank));
                break;
            case 3:
                int many = random.nextInt(11);
                int of = random.nextInt(30) == 0 ? -1 : random.nextInt(4);
                Due.same(when + "limit", house.limit(of, many), model.limit(of, many));
                break;
            case 4:
                int counter = random.nextInt(random.nextInt(20) == 0 ? 10 : 3);
                int floor = random.nextInt(20) == 0 ? 1 : -random.nextInt(80);
                Due.same(when + "floor", house.floor(counter, floor), model.floor(counter, floor));
                break;
            case 5:
                if (random.nextInt(2) == 0) {
                    int k = random.nextInt(model.entries.size() - model.kept + 2) - random.nextInt(2);
                    int undone = model.fall(k);
                    undoneByFalls += Math.max(undone, 0);
                    Due.same(when + "fall(" + k + ")", house.fall(k), undone);
                }
                break;
            default:
                int n = random.nextInt(80) == 0 ? 201 : random.nextInt(random.nextInt(10) == 0 ? 30 : 5);
                Due.same(when + "go(" + n + ")", house.go(n), model.go(n));
                break;
        }
    }

    private static void ask(Random random, ActHouse house, Model model, String when) {
        for (int what = -1; what < 10; what++) {
            Due.same(when + "count(" + what + ")", house.count(what), model.count(what));
        }
        for (int i = 0; i < 5; i++) {
            int act = random.nextInt(model.acts.size() + 2) - 1;
            for (int what = -1; what < 11; what++) {
                Due.same(when + "told(" + act + ", " + what + ")", house.told(act, what), model.told(act, what));
            }
            Due.same(when + "register(" + act + ")", house.register(act), model.register(act));
            int cell = random.nextInt(26) - 1;
            Due.same(when + "holds(" + act + ", " + cell + ")", house.holds(act, cell), model.holds(act, cell));
            int place = random.nextInt(34) - 1;
            int tick = random.nextInt(model.now + 3) - 1;
            Due.same(when + "value(" + place + ", " + tick + ")", house.value(place, tick), model.value(place, tick));
        }
    }

    private static void compareAll(ActHouse house, Model model, String when) {
        for (int act = -1; act <= 81; act++) {
            for (int what = -1; what < 11; what++) {
                Due.same(when + "told(" + act + ", " + what + ")", house.told(act, what), model.told(act, what));
            }
            for (int cell = -1; cell < 25; cell++) {
                Due.same(when + "holds(" + act + ", " + cell + ")", house.holds(act, cell), model.holds(act, cell));
            }
            Due.same(when + "done(" + act + ")", house.done(act), model.done(act));
        }
        for (int i = -1; i <= model.entries.size(); i++) {
            for (int what = -1; what < 5; what++) {
                Due.same(when + "log(" + i + ", " + what + ")", house.log(i, what), model.log(i, what));
            }
        }
        for (int place = 0; place < 32; place++) {
            for (int tick = 0; tick <= model.now + 1; tick += 7) {
                Due.same(when + "value(" + place + ", " + tick + ")", house.value(place, tick),
                    model.value(place, tick));
            }
            Due.same(when + "value now of " + place, house.value(place, model.now), model.value(place, model.now));
        }
    }
}
