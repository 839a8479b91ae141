/** What steps do to the register, the cells and the acts to come (promises 3, 7, 10 and 12). */
public final class StepTest {
    public static void main(String[] args) {
        ownWritesAreSeenAlone();
        checkStopsBelowZeroAlone();
        skipLeavesOutWhatThereIs();
        registerBound();
        stoppedActsLeaveNothing();
        queuedActsCome();
        queuedActsBeyondEightyDoNot();
        Due.end("StepTest");
    }

    private static void ownWritesAreSeenAlone() {
        ActHouse house = new ActHouse();
        Due.lay(house, 0, Due.set(7), Due.write(23), Due.set(1), Due.read(23), Due.sum(23), Due.write(22));
        house.act(0, 0, 0);
        house.go(3);
        Due.same("others don't see it", house.value(23, 3), 0);
        house.go(2);
        Due.same("its own read does", house.register(0), 7);
        house.go(1);
        Due.same("its own sum does", house.register(0), 14);
        Due.same("it holds the cell to write yet", house.holds(0, 23), 2);
        Due.same("not done", house.value(23, 6), 0);
        house.go(1);
        Due.same("done", house.value(23, 7), 7);
        Due.same("done too", house.value(22, 7), 14);
    }

    private static void checkStopsBelowZeroAlone() {
        ActHouse house = new ActHouse();
        Due.lay(house, 0, Due.set(0), Due.check(), Due.set(-1), Due.check(), Due.set(5));
        house.act(0, 0, 0);
        house.go(3);
        Due.same("0 passes", house.told(0, 4), 2);
        house.go(2);
        Due.same("-1 stops", house.told(0, 0), 4);
        Due.same("its entry", house.log(1, 0), 3);
        Due.same("its tick", house.log(1, 3), 4);
    }

    private static void skipLeavesOutWhatThereIs() {
        ActHouse house = new ActHouse();
        Due.lay(house, 0, Due.skip(2), Due.set(-1), Due.skip(2), Due.set(3), Due.write(0), Due.write(1));
        Due.lay(house, 1, Due.set(-1), Due.skip(99), Due.write(2));
        Due.lay(house, 2, Due.set(-1), Due.skip(0), Due.write(3));
        Due.lay(house, 3, Due.set(-1), Due.skip(1), Due.write(4));
        house.act(0, 0, 0);
        house.act(1, 1, 0);
        house.act(2, 2, 0);
        house.act(3, 3, 0);
        house.go(2);
        Due.same("at 0 nothing is left out", house.told(0, 4), 1);
        house.go(1);
        Due.same("told(0, 4)", house.told(0, 4), 2);
        Due.same("behind the end it is done at once", house.told(1, 0), 2);
        Due.same("in the tick of the skip", house.told(1, 6), 2);
        Due.same("b = 0 leaves out none", house.told(2, 4), 2);
        Due.same("just to the end", house.told(3, 6), 2);
        house.go(1);
        Due.same("two are left out", house.told(0, 4), 5);
        house.go(1);
        Due.same("cell 0", house.value(0, 5), 0);
        Due.same("cell 1", house.value(1, 5), -1);
        Due.same("cell 2", house.value(2, 5), 0);
        Due.same("cell 3", house.value(3, 5), -1);
    }

    /** Doubles a cell again and again: 49 * 2^14 = 802816 is within the bound, twice that isn't. */
    private static void registerBound() {
        for (int sign = -1; sign <= 1; sign += 2) {
            ActHouse house = new ActHouse();
            int first = sign * 49;
            Due.lay(house, 0, Due.set(first), Due.write(0));
            Due.lay(house, 1, Due.read(0), Due.sum(0), Due.write(0), Due.sum(0), Due.write(0));
            house.act(0, 0, 0);
            house.go(3);
            for (int i = 0; i < 7; i++) {
                house.act(1, 0, 0);
                house.go(6);
            }
            int now = house.count(0);
            Due.same("within", house.value(0, now), first * 16384);
            house.act(1, 0, 0);
            house.go(3);
            Due.same("beyond it is stopped", house.told(8, 0), 4);
            Due.same("at the sum", house.log(house.count(2) - 1, 3), now + 2);
            Due.same("the cell stays", house.value(0, now + 3), first * 16384);
            exactBound(sign);
        }
    }

    /** Builds the bound itself from powers of 5, and goes one beyond. */
    private static void exactBound(int sign) {
        ActHouse house = new ActHouse();
        Due.lay(house, 0, Due.set(sign * 25), Due.write(0), Due.write(1));
        run(house, 0);
        Due.lay(house, 1, Due.read(0), Due.write(1), Due.sum(1), Due.sum(1), Due.sum(1), Due.sum(1), Due.write(0));
        for (int i = 0; i < 6; i++) {
            run(house, 1);
        }
        int now = house.count(0);
        Due.same("25 * 5^6", house.value(0, now), sign * 390625);
        // 390625 * 2 = 781250; 781250 + 78125 * 2 + 15625 * 4 = 1000000
        Due.lay(house, 2, Due.read(0), Due.write(5));
        run(house, 2);
        Due.lay(house, 3, Due.set(sign * 25), Due.write(0), Due.write(1));
        run(house, 3);
        for (int i = 0; i < 5; i++) {
            run(house, 1);
        }
        Due.same("25 * 5^4, beside 25 * 5^5", house.value(1, house.count(0)), sign * 15625);
        Due.lay(house, 4, Due.read(5), Due.sum(5), Due.sum(0), Due.sum(0), Due.sum(1), Due.sum(1), Due.sum(1),
            Due.sum(1), Due.write(6), Due.add(sign), Due.write(7));
        int act = house.act(4, 0, 0);
        house.go(9);
        Due.same("the bound itself can be", house.register(act), sign * 1000000);
        house.go(1);
        Due.same("and be written", house.holds(act, 6), 2);
        house.go(1);
        Due.same("one beyond can't", house.told(act, 0), 4);
        Due.same("and nothing of it counts", house.value(6, house.count(0)), 0);
    }

    private static void run(ActHouse house, int program) {
        int act = house.act(program, 0, 0);
        house.go(13);
        Due.same("program " + program + " is answered or done", house.told(act, 6) >= 0, true);
    }

    private static void stoppedActsLeaveNothing() {
        ActHouse house = new ActHouse();
        Due.lay(house, 0, Due.set(-5), Due.write(0), Due.hot(1, 9), Due.queue(1), Due.check());
        Due.lay(house, 1, Due.set(0));
        house.act(0, 0, 0);
        house.go(5);
        Due.same("it holds the cell", house.holds(0, 0), 2);
        house.go(1);
        Due.same("stopped", house.told(0, 0), 4);
        Due.same("the cell", house.value(0, 6), 0);
        Due.same("the counter", house.value(25, 6), 0);
        Due.same("nothing was queued", house.count(1), 1);
        Due.same("nothing is held", house.holds(0, 0), 0);
        Due.same("not among the done", house.done(0), -1);
    }

    private static void queuedActsCome() {
        ActHouse house = new ActHouse();
        Due.lay(house, 0, Due.queue(2), Due.queue(1), Due.queue(2), Due.set(0));
        Due.lay(house, 1, Due.set(0));
        house.act(0, 3, 8);
        house.go(4);
        Due.same("not before it is done", house.count(1), 1);
        house.go(1);
        Due.same("then all", house.count(1), 4);
        int[] programs = {2, 1, 2};
        for (int i = 0; i < 3; i++) {
            Due.same("program of " + (i + 1), house.told(i + 1, 1), programs[i]);
            Due.same("class of " + (i + 1), house.told(i + 1, 2), 3);
            Due.same("rank of " + (i + 1), house.told(i + 1, 3), 8);
            Due.same("who queued " + (i + 1), house.told(i + 1, 8), 0);
        }
        Due.same("without steps it waits", house.told(1, 0), 0);
        Due.same("begun in the same tick", house.told(2, 9), 4);
    }

    private static void queuedActsBeyondEightyDoNot() {
        ActHouse house = new ActHouse();
        Due.lay(house, 0, Due.queue(1), Due.queue(2), Due.queue(3));
        house.act(0, 0, 0);
        for (int i = 1; i < 78; i++) {
            house.act(7, 0, 0);
        }
        house.go(4);
        Due.same("count(1)", house.count(1), 80);
        Due.same("it is done all the same", house.told(0, 0), 3);
        Due.same("the first came", house.told(78, 1), 1);
        Due.same("the second came", house.told(79, 1), 2);
        Due.same("the third did not", house.told(80, 1), -1);
    }
}
