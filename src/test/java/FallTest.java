/** Promise 8: fall. */
public final class FallTest {
    public static void main(String[] args) {
        wrongFalls();
        doneWithoutEntryWaitsAgain();
        queuedOnesGoWithTheirParent();
        queuedChildOfAQueuedChild();
        someEntriesStay();
        begunOnesAreUndone();
        stoppedOnesWaitAgain();
        stoppedByAFallStaysStopped();
        countersAreAsTheDoneTell();
        nothingIsLeftOfTheLog();
        counterBelowItsFloor();
        Due.end("FallTest");
    }

    private static void wrongFalls() {
        ActHouse house = new ActHouse();
        Due.lay(house, 0, Due.set(1), Due.write(0));
        house.act(0, 0, 0);
        house.go(3);
        Due.same("entries", house.count(2), 3);
        Due.same("fall(-1)", house.fall(-1), -1);
        Due.same("fall(MIN)", house.fall(Integer.MIN_VALUE), -1);
        Due.same("fall(4)", house.fall(4), -1);
        Due.same("fall(MAX)", house.fall(Integer.MAX_VALUE), -1);
        Due.same("nothing changed: entries", house.count(2), 3);
        Due.same("nothing changed: kept", house.count(3), 0);
        Due.same("nothing changed: done", house.told(0, 0), 2);
        Due.same("nothing changed: falls", house.count(8), 0);
        Due.same("fall(3)", house.fall(3), 0);
        Due.same("answered", house.told(0, 0), 3);
        Due.same("kept", house.count(3), 3);
        Due.same("falls", house.count(8), 1);
        Due.same("fall(1)", house.fall(1), -1);
        Due.same("fall(0)", house.fall(0), 0);
        Due.same("falls again", house.count(8), 2);
        Due.same("NOW stays", house.count(0), 3);
    }

    private static void doneWithoutEntryWaitsAgain() {
        ActHouse house = new ActHouse();
        Due.lay(house, 0, Due.set(1), Due.write(0));
        house.act(0, 0, 0);
        house.go(3);
        Due.same("before", house.value(0, 3), 1);
        Due.same("fall(2)", house.fall(2), 1);
        Due.same("it waits", house.told(0, 0), 0);
        Due.same("undone once", house.told(0, 7), 1);
        Due.same("done in no tick", house.told(0, 6), -1);
        Due.same("begun last in", house.told(0, 9), 0);
        Due.same("the cell is as before", house.value(0, 3), 0);
        Due.same("in all ticks", house.value(0, 2), 0);
        Due.same("no row of done ones", house.done(0), -1);
        Due.same("count(6)", house.count(6), 0);
        Due.same("entries left", house.count(2), 2);
        Due.same("all kept", house.count(3), 2);
        Due.same("entry 2 is gone", house.log(2, 0), -1);
        house.go(3);
        Due.same("done again", house.told(0, 6), 5);
        Due.same("with an entry", house.log(4, 0), 2);
        Due.same("the cell", house.value(0, 6), 1);
        Due.same("but not in tick 2", house.value(0, 2), 0);
    }

    /** Act 0 is begun in tick 1 and done in tick 4, behind the keeping of tick 3. */
    private static ActHouse withChild(int... childSteps) {
        ActHouse house = new ActHouse();
        Due.lay(house, 0, Due.set(5), Due.write(0), Due.queue(1));
        Due.lay(house, 1, childSteps);
        house.go(1);
        house.act(0, 0, 0);
        house.go(4);
        Due.same("parent is done", house.told(0, 6), 4);
        Due.same("child is begun", house.told(1, 9), 4);
        Due.same("kept", house.count(3), 2);
        Due.same("entries", house.count(2), 4);
        return house;
    }

    private static void queuedOnesGoWithTheirParent() {
        ActHouse house = withChild(Due.read(0), Due.write(1));
        house.go(2);
        Due.same("child is done", house.told(1, 0), 2);
        Due.same("value", house.value(1, 7), 5);
        Due.same("both are undone", house.fall(0), 2);
        Due.same("the parent waits", house.told(0, 0), 0);
        Due.same("the child is stopped", house.told(1, 0), 4);
        Due.same("the parent was undone", house.told(0, 7), 1);
        Due.same("the child doesn't wait again", house.told(1, 7), 0);
        Due.same("the child is done in no tick", house.told(1, 6), -1);
        Due.same("its number stays", house.count(1), 2);
        Due.same("it tells who queued it", house.told(1, 8), 0);
        Due.same("cell 1", house.value(1, 7), 0);
        Due.same("none done", house.count(6), 0);
        house.go(6);
        Due.same("the parent is done again", house.told(0, 6), 10);
        Due.same("a new child came", house.told(2, 8), 0);
        Due.same("the old one stays stopped", house.told(1, 0), 4);
        Due.same("and is done", house.told(2, 6), 12);
        Due.same("cell 1 again", house.value(1, 13), 5);
        Due.same("but not before", house.value(1, 11), 0);
        ActHouse begun = withChild(Due.set(1), Due.set(2), Due.set(3));
        begun.go(1);
        Due.same("one was done", begun.fall(0), 1);
        Due.same("the begun child is stopped", begun.told(1, 0), 4);
        Due.same("no register", begun.register(1), Due.NO_VALUE);
    }

    private static void queuedChildOfAQueuedChild() {
        ActHouse house = new ActHouse();
        Due.lay(house, 0, Due.queue(1));
        Due.lay(house, 1, Due.queue(2));
        Due.lay(house, 2, Due.set(1));
        house.go(3);
        house.act(0, 0, 0);
        house.go(4);
        Due.same("all three are done", house.count(6), 3);
        Due.same("NOW", house.count(0), 7);
        Due.same("kept is the beginning alone", house.count(3), 1);
        Due.same("parent stays, the rest goes", house.fall(1), 2);
        Due.same("the parent", house.told(0, 0), 3);
        Due.same("its child waits", house.told(1, 0), 0);
        Due.same("its child's child is stopped", house.told(2, 0), 4);
        house.go(3);
        Due.same("the child's child comes anew", house.told(3, 8), 1);
    }

    private static void someEntriesStay() {
        ActHouse house = withChild(Due.set(-1), Due.check());
        house.go(2);
        Due.same("the child is stopped", house.told(1, 0), 4);
        Due.same("fall(1)", house.fall(1), 0);
        Due.same("the parent's entry stays", house.told(0, 0), 3);
        Due.same("done(0)", house.done(0), 0);
        Due.same("cell 0", house.value(0, 7), 5);
        Due.same("the child waits again", house.told(1, 0), 0);
        Due.same("not counted as undone", house.told(1, 7), 0);
        Due.same("kept", house.count(3), 3);
    }

    private static void begunOnesAreUndone() {
        ActHouse house = withChild(Due.set(1), Due.write(3), Due.set(2), Due.set(3));
        house.go(2);
        Due.same("it holds a cell", house.holds(1, 3), 2);
        Due.same("entries", house.count(2), 5);
        Due.same("fall(3)", house.fall(3), 0);
        Due.same("no entry more", house.count(2), 5);
        Due.same("it waits", house.told(1, 0), 0);
        Due.same("undone once", house.told(1, 7), 1);
        Due.same("it holds nothing", house.holds(1, 3), 0);
        Due.same("no ring", house.count(7), 0);
        house.go(6);
        Due.same("done in the end", house.value(3, 13), 1);
    }

    private static void stoppedOnesWaitAgain() {
        ActHouse house = new ActHouse();
        Due.lay(house, 0, Due.read(0), Due.add(-1), Due.check(), Due.write(1));
        house.go(1);
        house.act(0, 0, 0);
        house.go(4);
        Due.same("stopped", house.told(0, 0), 4);
        Due.same("fall(1)", house.fall(1), 0);
        Due.same("its entry stays", house.told(0, 0), 4);
        house.act(0, 0, 0);
        house.go(4);
        Due.same("another is stopped", house.told(1, 0), 4);
        Due.same("fall(0)", house.fall(0), 0);
        Due.same("it waits again", house.told(1, 0), 0);
        Due.same("the first doesn't", house.told(0, 0), 4);
        house.go(4);
        Due.same("stopped again", house.told(1, 0), 4);
    }

    private static void stoppedByAFallStaysStopped() {
        ActHouse house = withChild(Due.set(-1), Due.check());
        house.go(2);
        Due.same("fall(0)", house.fall(0), 1);
        Due.same("the child is stopped without an entry", house.told(1, 0), 4);
        for (int i = 0; i < 3; i++) {
            house.fall(0);
            Due.same("it stays so", house.told(1, 0), 4);
            house.go(1);
        }
    }

    private static void countersAreAsTheDoneTell() {
        ActHouse house = new ActHouse();
        Due.lay(house, 0, Due.hot(7, 10));
        Due.lay(house, 1, Due.hot(7, -3), Due.set(0), Due.set(0), Due.set(0), Due.set(0), Due.set(0));
        house.act(0, 0, 0);
        house.act(1, 0, 9);
        house.go(4);
        Due.same("10 is kept", house.value(31, 4), 10);
        Due.same("what is to come counts", house.floor(7, 0), true);
        house.act(0, 0, 0);
        house.go(2);
        Due.same("20", house.value(31, 6), 20);
        Due.same("fall(0)", house.fall(0), 1);
        Due.same("10 again", house.value(31, 6), 10);
        Due.same("as of tick 5", house.value(31, 5), 10);
        Due.same("as of tick 0", house.value(31, 0), 0);
        house.go(12);
        Due.same("all done again", house.value(31, 18), 17);
    }

    private static void nothingIsLeftOfTheLog() {
        ActHouse house = new ActHouse();
        Due.lay(house, 0, Due.set(1), Due.write(0));
        house.act(0, 0, 0);
        house.go(3);
        Due.same("fall(0)", house.fall(0), 1);
        Due.same("no entries", house.count(2), 0);
        Due.same("none kept", house.count(3), 0);
        Due.same("log(0, 0)", house.log(0, 0), -1);
        house.go(1);
        Due.same("the first entry is new", house.log(0, 3), 3);
    }

    /** The floor is raised on what a fall then takes away. */
    private static void counterBelowItsFloor() {
        ActHouse house = new ActHouse();
        Due.lay(house, 0, Due.hot(0, -5));
        Due.lay(house, 1, Due.hot(0, 10));
        Due.lay(house, 2, Due.hot(0, 0));
        Due.lay(house, 3, Due.hot(0, -1));
        house.floor(0, -5);
        house.act(0, 0, 0);
        house.go(4);
        house.act(1, 0, 0);
        house.go(2);
        Due.same("5 is there", house.value(24, 6), 5);
        Due.same("floor(0, 0)", house.floor(0, 0), true);
        house.limit(0, 0);
        Due.same("fall(0)", house.fall(0), 1);
        Due.same("below the floor", house.value(24, 6), -5);
        Due.same("the floor can't be set there again", house.floor(0, 0), false);
        house.act(2, 1, 0);
        house.act(3, 1, 0);
        house.go(2);
        Due.same("0 more can be all the same", house.told(2, 6), 7);
        Due.same("1 less can't", house.told(3, 5), 1);
    }
}
