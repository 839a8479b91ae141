/** What the tests share: steps by name, and a tally of answers that are not as due. */
final class Due {
    static final int READ = 0;
    static final int SET = 1;
    static final int ADD = 2;
    static final int WRITE = 3;
    static final int SUM = 4;
    static final int CHECK = 5;
    static final int HOT = 6;
    static final int QUEUE = 7;
    static final int SKIP = 8;
    static final int NO_VALUE = Integer.MIN_VALUE;
    /** Numbers that are wrong for every argument with a lower bound of 0 and a small upper one. */
    static final int[] FAR = {-1, -2, Integer.MIN_VALUE, Integer.MAX_VALUE, 1 << 20};

    private static int wrong = 0;

    private Due() {
    }

    static void same(String what, long got, long want) {
        if (got != want) {
            wrong++;
            System.out.println(what + " answered " + got + ", due is " + want);
        }
    }

    static void same(String what, boolean got, boolean want) {
        same(what, got ? 1 : 0, want ? 1 : 0);
    }

    static int step(int op, int a, int b) {
        return op * 10000 + a * 100 + b;
    }

    static int read(int cell) {
        return step(READ, cell, 0);
    }

    static int set(int number) {
        return step(SET, 0, number + 50);
    }

    static int add(int number) {
        return step(ADD, 0, number + 50);
    }

    static int write(int cell) {
        return step(WRITE, cell, 0);
    }

    static int sum(int cell) {
        return step(SUM, cell, 0);
    }

    static int check() {
        return step(CHECK, 0, 0);
    }

    static int hot(int counter, int more) {
        return step(HOT, counter, more + 50);
    }

    static int queue(int program) {
        return step(QUEUE, program, 0);
    }

    static int skip(int many) {
        return step(SKIP, 0, many);
    }

    /** Lays a program anew. */
    static void lay(ActHouse house, int program, int... steps) {
        same("program(" + program + ")", house.program(program), true);
        for (int i = 0; i < steps.length; i++) {
            same("step(" + program + ", " + steps[i] + ")", house.step(program, steps[i]), i + 1);
        }
    }

    /** Ends the test's main method. */
    static void end(String test) {
        System.out.println(test + ": " + (wrong == 0 ? "all answers are as due" : wrong + " answers are not as due"));
        if (wrong != 0) {
            System.exit(1);
        }
    }
}
