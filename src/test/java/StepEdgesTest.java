/** The edges that part 1 of the document's Terms names: a sentence of it stands above each test. */
public final class StepEdgesTest {
    private static final int MILLION = 1000000;

    public static void main(String[] args) {
        nowAtFirst();
        firstAndLastCell();
        countersAtFirst();
        floorsAtFirst();
        noStepsAtFirst();
        programOfOneStep();
        programOfTwelveSteps();
        leastAndGreatestStep();
        cellOfAStepMustBeOne();
        counterOfAStepMustBeOne();
        programOfAStepMustBeOne();
        whatAStepDoesNotNeed();
        setAtItsEdges();
        addAtItsEdges();
        hotAtItsEdges();
        checkAtZero();
        skipAtZero();
        skipOfNone();
        skipOfTheRest();
        skipOfMoreThanTheRest();
        skipAsTheLastStep();
        registerAtTheBound();
        registerBeyondTheBoundByAdd();
        registerBeyondTheBoundBySum();
        Due.end("StepEdgesTest");
    }

    /** "TICKS are 0 .. 5000; NOW is one (0 at first)." */
    private static void nowAtFirst() {
        ActHouse house = new ActHouse();
        Due.same("NOW", house.count(0), 0);
        Due.same("tick 0 is there", house.value(0, 0), 0);
        Due.same("tick 1 is not yet", house.value(0, 1), Due.NO_VALUE);
        Due.same("tick -1 never", house.value(0, -1), Due.NO_VALUE);
    }

    /** "CELLS are 0 .. 23 .. each has a value, 0 at first" */
    private static void firstAndLastCell() {
        ActHouse house = new ActHouse();
        Due.lay(house, 0, Due.set(7), Due.write(0), Due.add(1), Due.write(23));
        for (int cell = 0; cell < 24; cell++) {
            Due.same("cell " + cell + " at first", house.value(cell, 0), 0);
        }
        house.act(0, 0, 0);
        house.go(5);
        Due.same("cell 0", house.value(0, 5), 7);
        Due.same("cell 23", house.value(23, 5), 8);
        Due.same("cell 1", house.value(1, 5), 0);
        Due.same("cell 22", house.value(22, 5), 0);
        Due.same("the counter behind the cells", house.value(24, 5), 0);
    }

    /** "COUNTERS 0 .. 7: each has a value, 0 at first" */
    private static void countersAtFirst() {
        ActHouse house = new ActHouse();
        Due.lay(house, 0, Due.hot(0, 3), Due.hot(7, 4));
        for (int counter = 0; counter < 8; counter++) {
            Due.same("counter " + counter + " at first", house.value(24 + counter, 0), 0);
        }
        house.act(0, 0, 0);
        house.go(3);
        Due.same("counter 0", house.value(24, 3), 3);
        Due.same("counter 1", house.value(25, 3), 0);
        Due.same("counter 6", house.value(30, 3), 0);
        Due.same("counter 7", house.value(31, 3), 4);
        Due.same("the cell before the counters", house.value(23, 3), 0);
    }

    /** "a COUNTER has a FLOOR (0 at first)" */
    private static void floorsAtFirst() {
        for (int counter = 0; counter < 8; counter++) {
            ActHouse house = new ActHouse();
            Due.lay(house, 0, Due.hot(counter, -1));
            Due.lay(house, 1, Due.hot(counter, 0));
            house.act(0, 0, 0);
            house.act(1, 0, 0);
            house.go(5);
            Due.same("-1 is held at counter " + counter, house.told(0, 5), 1);
            Due.same("0 is not", house.told(1, 6), 1);
        }
    }

    /** "PROGRAMS are 0 .. 7: rows of 1 to 12 STEPS (none at first)." */
    private static void noStepsAtFirst() {
        ActHouse house = new ActHouse();
        for (int program = 0; program < 8; program++) {
            Due.same("act of " + program, house.act(program, program % 4, 0), program);
        }
        house.go(9);
        Due.same("none is begun without steps", house.count(4), 8);
        Due.same("no entry", house.count(2), 0);
        for (int program = 0; program < 8; program++) {
            Due.same("the first step of " + program, house.step(program, Due.set(1)), 1);
        }
    }

    /** "rows of 1 to 12 STEPS": one is enough. */
    private static void programOfOneStep() {
        ActHouse house = new ActHouse();
        Due.lay(house, 7, Due.write(4));
        house.act(7, 0, 0);
        house.go(1);
        Due.same("begun", house.told(0, 0), 1);
        house.go(1);
        Due.same("done", house.told(0, 0), 2);
        Due.same("in tick 1", house.told(0, 6), 1);
    }

    /** "rows of 1 to 12 STEPS": the twelfth is done too, a thirteenth never comes. */
    private static void programOfTwelveSteps() {
        ActHouse house = new ActHouse();
        for (int i = 1; i <= 12; i++) {
            Due.same("step " + i, house.step(6, Due.add(i)), i);
            Due.same("step " + i + " beside", house.step(7, Due.add(1)), i);
        }
        Due.same("step 13", house.step(6, Due.add(13)), -1);
        Due.same("step 13 again", house.step(6, Due.add(13)), -1);
        house.act(6, 0, 0);
        house.go(12);
        Due.same("at the last step", house.told(0, 4), 11);
        Due.same("eleven are done", house.register(0), 66);
        house.go(1);
        Due.same("done behind the twelfth", house.told(0, 6), 12);
    }

    /** "A STEP is a number OP * 10000 + a * 100 + b" */
    private static void leastAndGreatestStep() {
        ActHouse house = new ActHouse();
        Due.same("step -1", house.step(0, -1), -1);
        Due.same("step 0", house.step(0, 0), 1);
        Due.same("step 89999", house.step(0, 89999), 2);
        Due.same("step 90000", house.step(0, 90000), -1);
        Due.same("none more came", house.step(0, 0), 3);
        for (int op = 0; op <= 8; op++) {
            Due.same("the least step of " + op, house.step(1, op * 10000), op + 1);
        }
    }

    /** "a CELL .. must be one" */
    private static void cellOfAStepMustBeOne() {
        ActHouse house = new ActHouse();
        int came = 0;
        for (int op : new int[] {Due.READ, Due.WRITE, Due.SUM}) {
            came++;
            Due.same(op + " of cell 23", house.step(0, Due.step(op, 23, 99)), came);
            Due.same(op + " of cell 24", house.step(0, Due.step(op, 24, 0)), -1);
            Due.same(op + " of cell 99", house.step(0, Due.step(op, 99, 99)), -1);
            came++;
            Due.same(op + " of cell 0", house.step(0, Due.step(op, 0, 0)), came);
        }
    }

    /** "a .. COUNTER .. must be one" */
    private static void counterOfAStepMustBeOne() {
        ActHouse house = new ActHouse();
        Due.same("counter 0", house.step(0, Due.step(Due.HOT, 0, 0)), 1);
        Due.same("counter 7", house.step(0, Due.step(Due.HOT, 7, 99)), 2);
        Due.same("counter 8", house.step(0, Due.step(Due.HOT, 8, 0)), -1);
        Due.same("counter 23", house.step(0, Due.step(Due.HOT, 23, 0)), -1);
        Due.same("counter 99", house.step(0, Due.step(Due.HOT, 99, 99)), -1);
        Due.same("none more came", house.step(0, 0), 3);
    }

    /** "a .. PROGRAM must be one": it need not have steps. */
    private static void programOfAStepMustBeOne() {
        ActHouse house = new ActHouse();
        Due.same("program 0", house.step(0, Due.step(Due.QUEUE, 0, 0)), 1);
        Due.same("program 7", house.step(0, Due.step(Due.QUEUE, 7, 99)), 2);
        Due.same("program 8", house.step(0, Due.step(Due.QUEUE, 8, 0)), -1);
        Due.same("program 23", house.step(0, Due.step(Due.QUEUE, 23, 0)), -1);
        Due.same("program 99", house.step(0, Due.step(Due.QUEUE, 99, 99)), -1);
        Due.same("none more came", house.step(0, 0), 3);
    }

    /** "what a STEP doesn't need doesn't matter": a of SET, ADD, CHECK and SKIP, b of the others. */
    private static void whatAStepDoesNotNeed() {
        ActHouse house = new ActHouse();
        Due.lay(house, 0, Due.step(Due.SET, 99, 45), Due.step(Due.ADD, 24, 52), Due.step(Due.WRITE, 2, 99),
            Due.step(Due.READ, 2, 99), Due.step(Due.SUM, 2, 37), Due.step(Due.SKIP, 99, 1),
            Due.step(Due.CHECK, 99, 99), Due.step(Due.WRITE, 3, 1), Due.step(Due.QUEUE, 5, 99));
        house.act(0, 0, 0);
        int[] registers = {0, -5, -3, -3, -3, -6, -6, -6};
        int[] places = {0, 1, 2, 3, 4, 5, 7, 8};
        for (int i = 0; i < registers.length; i++) {
            house.go(1);
            Due.same("register after tick " + i, house.register(0), registers[i]);
            Due.same("step after tick " + i, house.told(0, 4), places[i]);
        }
        house.go(1);
        Due.same("cell 2", house.value(2, 9), -3);
        Due.same("cell 3", house.value(3, 9), -6);
        Due.same("queued", house.told(1, 1), 5);
    }

    /** "SET: it becomes b - 50", b being 0 .. 99 */
    private static void setAtItsEdges() {
        ActHouse house = new ActHouse();
        Due.lay(house, 0, 10000, 10099, 10050, 10049, 10051, 10000);
        house.act(0, 0, 0);
        int[] registers = {0, -50, 49, 0, -1, 1};
        for (int i = 0; i < registers.length; i++) {
            house.go(1);
            Due.same("register after tick " + i, house.register(0), registers[i]);
        }
    }

    /** "ADD: it becomes b - 50 more", b being 0 .. 99 */
    private static void addAtItsEdges() {
        ActHouse house = new ActHouse();
        Due.lay(house, 0, 20099, 20099, 20000, 20050, 20000, 20000);
        house.act(0, 0, 0);
        int[] registers = {0, 49, 98, 48, 48, -2};
        for (int i = 0; i < registers.length; i++) {
            house.go(1);
            Due.same("register after tick " + i, house.register(0), registers[i]);
        }
    }

    /** "HOT: COUNTER a is to be b - 50 more", b being 0 .. 99 */
    private static void hotAtItsEdges() {
        ActHouse house = new ActHouse();
        house.floor(0, -1000);
        Due.lay(house, 0, 60000);
        Due.lay(house, 1, 60050);
        Due.lay(house, 2, 60099);
        int[] values = {-50, -50, -1};
        for (int i = 0; i < 3; i++) {
            house.act(i, 0, 0);
            house.go(2);
            Due.same("counter after act " + i, house.value(24, i * 2 + 2), values[i]);
        }
    }

    /** "CHECK: if it is below 0, the ACT is STOPPED." */
    private static void checkAtZero() {
        int[] states = {4, 1, 1};
        for (int number = -1; number <= 1; number++) {
            ActHouse house = new ActHouse();
            Due.lay(house, 0, Due.set(number), Due.check(), Due.set(0));
            house.act(0, 0, 0);
            house.go(3);
            Due.same("check of " + number, house.told(0, 0), states[number + 1]);
        }
    }

    /** "SKIP: if the REGISTER is below 0, the next b STEPS are left out" */
    private static void skipAtZero() {
        int[] places = {3, 2, 2};
        for (int number = -1; number <= 1; number++) {
            ActHouse house = new ActHouse();
            Due.lay(house, 0, Due.set(number), Due.skip(1), Due.set(5), Due.set(6));
            house.act(0, 0, 0);
            house.go(3);
            Due.same("skip at " + number, house.told(0, 4), places[number + 1]);
        }
    }

    /** "the next b STEPS are left out", b being 0 */
    private static void skipOfNone() {
        ActHouse house = new ActHouse();
        Due.lay(house, 0, Due.set(-9), Due.skip(0), Due.write(0));
        house.act(0, 0, 0);
        house.go(3);
        Due.same("at the next", house.told(0, 4), 2);
        house.go(1);
        Due.same("which is done", house.value(0, 4), -9);
    }

    /** "the next b STEPS are left out (those that there are)": just all of them */
    private static void skipOfTheRest() {
        ActHouse house = new ActHouse();
        Due.lay(house, 0, Due.set(-9), Due.skip(2), Due.write(0), Due.write(1));
        house.act(0, 0, 0);
        house.go(3);
        Due.same("done at once", house.told(0, 6), 2);
        Due.same("cell 0", house.value(0, 3), 0);
        Due.same("cell 1", house.value(1, 3), 0);
        ActHouse other = new ActHouse();
        Due.lay(other, 0, Due.set(-9), Due.skip(1), Due.write(0), Due.write(1));
        other.act(0, 0, 0);
        other.go(3);
        Due.same("one less leaves the last", other.told(0, 4), 3);
    }

    /** "(those that there are)": fewer than b */
    private static void skipOfMoreThanTheRest() {
        for (int many : new int[] {3, 10, 12, 99}) {
            ActHouse house = new ActHouse();
            Due.lay(house, 0, Due.write(3), Due.set(-9), Due.skip(many), Due.write(0), Due.write(1));
            house.act(0, 0, 0);
            house.go(4);
            Due.same("done at once: " + many, house.told(0, 6), 3);
            Due.same("entries: begun, write, done", house.count(2), 3);
            Due.same("cell 0", house.value(0, 4), 0);
        }
    }

    /** "(those that there are)": none */
    private static void skipAsTheLastStep() {
        ActHouse house = new ActHouse();
        for (int i = 0; i < 11; i++) {
            house.step(0, Due.set(-1));
        }
        Due.same("the twelfth", house.step(0, Due.skip(99)), 12);
        house.act(0, 0, 0);
        house.go(13);
        Due.same("done", house.told(0, 6), 12);
        Due.same("no step any more", house.told(0, 4), -1);
    }

    /** A house whose cell 0 is the bound itself: 10, five times made ten times as much. */
    private static ActHouse withMillion(int sign) {
        ActHouse house = new ActHouse();
        Due.lay(house, 0, Due.set(sign * 10), Due.write(0));
        Due.lay(house, 1, Due.read(0), Due.write(0), Due.sum(0), Due.sum(0), Due.sum(0), Due.sum(0), Due.sum(0),
            Due.sum(0), Due.sum(0), Due.sum(0), Due.sum(0), Due.write(0));
        house.limit(0, 1);
        house.act(0, 0, 0);
        for (int i = 1; i <= 5; i++) {
            house.act(1, 0, 0);
        }
        Due.same("go", house.go(63), 63);
        Due.same("the bound was reached, and written", house.value(0, 63), sign * MILLION);
        Due.same("the last is done", house.told(5, 6), 62);
        return house;
    }

    /** "If the REGISTER would be above 1000000 or below -1000000": the bounds themselves can be. */
    private static void registerAtTheBound() {
        for (int sign = -1; sign <= 1; sign += 2) {
            ActHouse house = withMillion(sign);
            Due.lay(house, 2, Due.read(0), Due.add(0), Due.sum(1), Due.add(-sign), Due.add(sign), Due.write(2));
            house.act(2, 0, 0);
            int[] less = {0, 0, 0, 0, 1, 0};
            for (int i = 0; i < less.length; i++) {
                house.go(1);
                Due.same("register after step " + i, house.register(6), i == 0 ? 0 : sign * (MILLION - less[i]));
            }
            house.go(1);
            Due.same("written", house.value(2, 70), sign * MILLION);
        }
    }

    /** "If the REGISTER would be above 1000000 or below -1000000, the ACT is STOPPED." */
    private static void registerBeyondTheBoundByAdd() {
        for (int sign = -1; sign <= 1; sign += 2) {
            ActHouse house = withMillion(sign);
            Due.lay(house, 2, Due.read(0), Due.write(2), Due.add(sign), Due.write(3));
            house.act(2, 0, 0);
            house.go(3);
            Due.same("it can be yet", house.told(6, 0), 1);
            house.go(1);
            Due.same("stopped", house.told(6, 0), 4);
            Due.same("no register", house.register(6), Due.NO_VALUE);
            Due.same("its entry's kind", house.log(house.count(2) - 1, 0), 3);
            Due.same("its entry's tick", house.log(house.count(2) - 1, 3), 66);
            Due.same("nothing of it counts", house.value(2, 67), 0);
            Due.same("not among the done", house.count(6), 6);
        }
    }

    /** The same, by the value of a cell that is 1 or -1, and of one that is far beyond. */
    private static void registerBeyondTheBoundBySum() {
        for (int sign = -1; sign <= 1; sign += 2) {
            ActHouse house = withMillion(sign);
            Due.lay(house, 2, Due.set(sign), Due.write(1));
            Due.lay(house, 3, Due.read(0), Due.sum(1), Due.set(0));
            Due.lay(house, 4, Due.read(0), Due.sum(0), Due.set(0));
            Due.lay(house, 5, Due.read(0), Due.sum(2), Due.set(0));
            house.act(2, 0, 0);
            house.go(3);
            for (int program = 3; program <= 5; program++) {
                house.act(program, program - 2, 0);
            }
            house.go(3);
            Due.same("by one", house.told(7, 0), 4);
            Due.same("by far", house.told(8, 0), 4);
            Due.same("by 0 it can be", house.told(9, 0), 1);
        }
    }
}
