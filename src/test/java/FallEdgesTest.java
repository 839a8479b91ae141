/** The edges that part 4 of the document's Terms and promise 8 name: a sentence of them stands above each test. */
public final class FallEdgesTest {
    public static void main(String[] args) {
        fallOfANewHouse();
        noneBeyondWhatIsKept();
        allBeyondWhatIsKept();
        oneMoreThanThereAre();
        belowZero();
        nothingBeyondWhatIsKept();
        eachNumberOfEntries();
        doneEntryAtTheEdge();
        stoppedEntryAtTheEdge();
        answeredOnesStay();
        begunOnesWithoutAnEntry();
        waitingOnesStay();
        queuedWaitingOnes();
        queuedBegunOnes();
        queuedDoneOnes();
        queuedStoppedOnes();
        queuedByOneWhoseEntryStays();
        numbersStay();
        numbersStayThoughTheHouseIsFull();
        stoppedWithoutAnEntry();
        cellsOfTwoDoneInOneTick();
        countersOfThoseDoneYet();
        allThatIsLeftIsKept();
        orderOfTheDoneNow();
        historyWithoutTheUndone();
        fallBehindAFall();
        fallInTheLastTick();
        undoneAgainAndAgain();
        nowAndLimitsStay();
        Due.end("FallEdgesTest");
    }

    /** "of the LOG the entries that are KEPT stay": none are there. */
    private static void fallOfANewHouse() {
        ActHouse house = new ActHouse();
        Due.same("fall(1)", house.fall(1), -1);
        Due.same("falls", house.count(8), 0);
        Due.same("fall(0)", house.fall(0), 0);
        Due.same("falls", house.count(8), 1);
        Due.same("entries", house.count(2), 0);
        Due.same("NOW", house.count(0), 0);
    }

    /** Act 0 is done in tick 2 with a WRITE, act 1 is stopped in it; five entries, none kept. */
    private static ActHouse unkept() {
        ActHouse house = new ActHouse();
        Due.lay(house, 0, Due.set(-7), Due.write(0));
        Due.lay(house, 1, Due.set(-1), Due.check());
        house.act(0, 0, 0);
        house.act(1, 0, 0);
        house.go(3);
        int[] kinds = {0, 0, 1, 2, 3};
        Due.same("entries", house.count(2), 5);
        Due.same("kept", house.count(3), 0);
        for (int i = 0; i < 5; i++) {
            Due.same("kind of " + i, house.log(i, 0), kinds[i]);
        }
        return house;
    }

    /** "and the next k; others are gone": k is 0. */
    private static void noneBeyondWhatIsKept() {
        ActHouse house = unkept();
        Due.same("fall(0)", house.fall(0), 1);
        Due.same("entries", house.count(2), 0);
        Due.same("entry 0", house.log(0, 0), -1);
        Due.same("the done waits", house.told(0, 0), 0);
        Due.same("the stopped waits", house.told(1, 0), 0);
    }

    /** "and the next k": all that there are. */
    private static void allBeyondWhatIsKept() {
        ActHouse house = unkept();
        Due.same("fall(5)", house.fall(5), 0);
        Due.same("entries", house.count(2), 5);
        Due.same("the done is answered", house.told(0, 0), 3);
        Due.same("the stopped is stopped", house.told(1, 0), 4);
        Due.same("the value stays", house.value(0, 3), -7);
    }

    /** "NONE if there are not so many" */
    private static void oneMoreThanThereAre() {
        ActHouse house = unkept();
        Due.same("fall(6)", house.fall(6), -1);
        Due.same("fall(MAX)", house.fall(Integer.MAX_VALUE), -1);
        asItWas(house);
    }

    /** "or k is below 0" */
    private static void belowZero() {
        ActHouse house = unkept();
        Due.same("fall(-1)", house.fall(-1), -1);
        Due.same("fall(MIN)", house.fall(Integer.MIN_VALUE), -1);
        asItWas(house);
    }

    private static void asItWas(ActHouse house) {
        Due.same("entries", house.count(2), 5);
        Due.same("kept", house.count(3), 0);
        Due.same("falls", house.count(8), 0);
        Due.same("the done is done", house.told(0, 0), 2);
        Due.same("the stopped is stopped", house.told(1, 0), 4);
        Due.same("the value stays", house.value(0, 3), -7);
        house.go(1);
        Due.same("answered in its tick", house.told(0, 0), 3);
        Due.same("kept in that tick", house.count(3), 5);
    }

    /** "NONE if there are not so many": all are kept, so k can be 0 alone. */
    private static void nothingBeyondWhatIsKept() {
        ActHouse house = unkept();
        house.go(1);
        Due.same("fall(1)", house.fall(1), -1);
        Due.same("fall(0)", house.fall(0), 0);
        Due.same("entries", house.count(2), 5);
        Due.same("answered", house.told(0, 0), 3);
        Due.same("falls", house.count(8), 1);
    }

    /** "and the next k; others are gone": each k that there can be. */
    private static void eachNumberOfEntries() {
        for (int k = 0; k <= 5; k++) {
            ActHouse house = unkept();
            Due.same("fall(" + k + ")", house.fall(k), k > 3 ? 0 : 1);
            Due.same("entries", house.count(2), k);
            Due.same("kept", house.count(3), k);
            Due.same("the last is there", house.log(k - 1, 0) >= 0, k > 0);
            Due.same("the next is gone", house.log(k, 0), -1);
        }
    }

    /** "those that are DONE, and whose entry is gone": its WRITE's entry alone is not enough. */
    private static void doneEntryAtTheEdge() {
        ActHouse gone = unkept();
        Due.same("fall(3)", gone.fall(3), 1);
        Due.same("its write stays in the log", gone.log(2, 0), 1);
        Due.same("it waits again", gone.told(0, 0), 0);
        Due.same("the cell is 0", gone.value(0, 3), 0);
        Due.same("in no row", gone.done(0), -1);
        ActHouse there = unkept();
        Due.same("fall(4)", there.fall(4), 0);
        Due.same("it is answered", there.told(0, 0), 3);
        Due.same("the cell is -7", there.value(0, 3), -7);
        Due.same("in the row", there.done(0), 0);
    }

    /** "STOPPED ones whose entry is gone WAIT again" */
    private static void stoppedEntryAtTheEdge() {
        ActHouse gone = unkept();
        Due.same("fall(4)", gone.fall(4), 0);
        Due.same("it waits again", gone.told(1, 0), 0);
        Due.same("not counted: it was neither begun nor done", gone.told(1, 7), 0);
        gone.go(3);
        Due.same("and is stopped again", gone.told(1, 0), 4);
        ActHouse there = unkept();
        Due.same("fall(5)", there.fall(5), 0);
        Due.same("it stays", there.told(1, 0), 4);
        there.go(3);
        Due.same("for ever", there.told(1, 0), 4);
    }

    /** "the entries that are KEPT stay": what is ANSWERED is never undone. */
    private static void answeredOnesStay() {
        ActHouse house = unkept();
        house.go(1);
        for (int i = 0; i < 3; i++) {
            Due.same("fall(0)", house.fall(0), 0);
            Due.same("answered", house.told(0, 0), 3);
            Due.same("undone", house.told(0, 7), 0);
            Due.same("done in", house.told(0, 6), 2);
            Due.same("value", house.value(0, 4), -7);
        }
    }

    /** "ACTS that are BEGUN are undone (no entry is written)" */
    private static void begunOnesWithoutAnEntry() {
        ActHouse house = new ActHouse();
        Due.lay(house, 0, Due.write(1), Due.hot(0, 4), Due.queue(5), Due.set(0), Due.set(0));
        house.act(0, 0, 0);
        house.go(4);
        Due.same("entries", house.count(2), 2);
        Due.same("no done one is undone", house.fall(0), 0);
        Due.same("entries still", house.count(2), 2);
        Due.same("it waits", house.told(0, 0), 0);
        Due.same("undone once", house.told(0, 7), 1);
        Due.same("no ring", house.count(7), 0);
        Due.same("no step", house.told(0, 4), -1);
        Due.same("not held", house.told(0, 5), 0);
        Due.same("no register", house.register(0), Due.NO_VALUE);
        Due.same("no lock", house.holds(0, 1), 0);
        house.go(6);
        Due.same("done again from the first step on", house.told(0, 6), 9);
        Due.same("given once", house.value(24, 10), 4);
        Due.same("queued once", house.count(1), 2);
    }

    /** "ACTS that are BEGUN are undone": those that WAIT just go on. */
    private static void waitingOnesStay() {
        ActHouse house = new ActHouse();
        house.act(0, 0, 0);
        house.go(2);
        Due.same("fall(0)", house.fall(0), 0);
        Due.same("it waits", house.told(0, 0), 0);
        Due.same("undone never", house.told(0, 7), 0);
        Due.same("begun never", house.told(0, 9), -1);
    }

    /** Act 0 is done in tick 4, unkept, and queued act 1 with these steps. */
    private static ActHouse withQueued(int... steps) {
        ActHouse house = new ActHouse();
        Due.lay(house, 0, Due.set(3), Due.set(4), Due.queue(1));
        Due.lay(house, 1, steps);
        house.go(1);
        house.act(0, 0, 0);
        house.go(4);
        Due.same("done", house.told(0, 6), 4);
        Due.same("queued", house.told(1, 8), 0);
        Due.same("kept", house.count(3), 1);
        return house;
    }

    private static void goneAndAnew(ActHouse house, int undone) {
        Due.same("fall(0)", house.fall(0), undone);
        Due.same("act 0 waits", house.told(0, 0), 0);
        Due.same("act 0 was undone", house.told(0, 7), 1);
        Due.same("act 1 is stopped", house.told(1, 0), 4);
        Due.same("it does not wait again", house.told(1, 7), 0);
        Due.same("done in no tick", house.told(1, 6), -1);
        Due.same("no register", house.register(1), Due.NO_VALUE);
        Due.same("no lock", house.holds(1, 0), 0);
        Due.same("no entry is written", house.count(2), 1);
        Due.same("acts", house.count(1), 2);
        Due.same("waiting", house.count(4), 1);
        house.program(1);
        house.go(9);
        Due.same("act 0 is done again", house.told(0, 6) > 4, true);
        Due.same("act 1 stays stopped", house.told(1, 0), 4);
        Due.same("another comes for it", house.told(2, 8), 0);
    }

    /** "what they QUEUED isn't there any more (its numbers stay: it is STOPPED)": one that WAITS */
    private static void queuedWaitingOnes() {
        goneAndAnew(withQueued(), 1);
    }

    /** The same: one that is BEGUN */
    private static void queuedBegunOnes() {
        ActHouse house = withQueued(Due.write(0), Due.set(0), Due.set(0));
        house.go(1);
        Due.same("begun", house.holds(1, 0), 2);
        goneAndAnew(house, 1);
    }

    /** The same: one that is DONE, which then is undone too */
    private static void queuedDoneOnes() {
        ActHouse house = withQueued(Due.set(5), Due.write(0));
        house.go(2);
        Due.same("done", house.told(1, 0), 2);
        Due.same("value", house.value(0, 7), 5);
        goneAndAnew(house, 2);
        Due.same("value is 0", house.value(0, house.count(0)), 0);
        Due.same("and was", house.value(0, 7), 0);
    }

    /** The same: one that is STOPPED, which does not WAIT again */
    private static void queuedStoppedOnes() {
        ActHouse house = withQueued(Due.set(-5), Due.check());
        house.go(2);
        Due.same("stopped", house.told(1, 0), 4);
        goneAndAnew(house, 1);
    }

    /** "those that are DONE, and whose entry is gone": if it is there, what it QUEUED is there too. */
    private static void queuedByOneWhoseEntryStays() {
        ActHouse house = withQueued(Due.set(5), Due.write(0));
        house.go(2);
        Due.same("fall(1): the entry of act 0 stays", house.fall(1), 1);
        Due.same("act 0", house.told(0, 0), 3);
        Due.same("act 1 waits again", house.told(1, 0), 0);
        Due.same("act 1 was undone", house.told(1, 7), 1);
        house.go(3);
        Due.same("act 1 is done again", house.told(1, 6), 9);
        Due.same("nobody else came", house.count(1), 2);
    }

    /** "(its numbers stay ..)": who comes next has the next number. */
    private static void numbersStay() {
        ActHouse house = withQueued();
        house.fall(0);
        Due.same("the next", house.act(3, 2, 1), 2);
        Due.same("told of the gone: program", house.told(1, 1), 1);
        Due.same("told of the gone: who queued it", house.told(1, 8), 0);
    }

    /** The same in a full house: act 0, done again, finds no room for what it queues. */
    private static void numbersStayThoughTheHouseIsFull() {
        ActHouse house = withQueued();
        while (house.count(1) < 80) {
            house.act(7, 3, 9);
        }
        Due.same("fall(0)", house.fall(0), 1);
        Due.same("no room for an act", house.act(0, 0, 0), -1);
        house.go(9);
        Due.same("act 0 is done again", house.told(0, 6) > 4, true);
        Due.same("acts", house.count(1), 80);
        Due.same("the last was queued by none", house.told(79, 8), -1);
        Due.same("act 1 is stopped", house.told(1, 0), 4);
    }

    /** "STOPPED ones whose entry is gone": one that a FALL stopped never had one, so it stays. */
    private static void stoppedWithoutAnEntry() {
        ActHouse house = withQueued(Due.set(-5), Due.check());
        house.go(2);
        house.fall(0);
        for (int i = 0; i < 4; i++) {
            house.go(1);
            house.fall(0);
            Due.same("it stays stopped", house.told(1, 0), 4);
        }
    }

    /** "CELLS and COUNTERS are as the ACTS tell that are DONE yet": of two of one tick the first alone. */
    private static void cellsOfTwoDoneInOneTick() {
        int[] values = {0, 0, 0, 0, 3, 3, 4};
        for (int k = 3; k <= 6; k++) {
            ActHouse house = new ActHouse();
            Due.lay(house, 0, Due.set(3), Due.write(0));
            Due.lay(house, 1, Due.set(4), Due.write(0));
            house.act(0, 0, 0);
            house.act(1, 0, 0);
            house.go(3);
            Due.same("both in tick 2", house.told(0, 6) + house.told(1, 6), 4);
            Due.same("begun, begun, write, done, write, done", house.count(2), 6);
            Due.same("the second's value", house.value(0, 3), 4);
            Due.same("fall(" + k + ")", house.fall(k), k == 3 ? 2 : k == 6 ? 0 : 1);
            Due.same("value with " + k, house.value(0, 3), values[k]);
            Due.same("value as of tick 2", house.value(0, 2), values[k]);
        }
    }

    /** The same, of a counter */
    private static void countersOfThoseDoneYet() {
        ActHouse house = new ActHouse();
        Due.lay(house, 0, Due.hot(7, 9));
        Due.lay(house, 1, Due.hot(7, -2));
        house.act(0, 0, 0);
        house.act(1, 0, 1);
        house.go(3);
        Due.same("7 in all", house.value(31, 3), 7);
        Due.same("fall: begun, begun, done", house.fall(3), 1);
        Due.same("9 without the second", house.value(31, 3), 9);
        house.go(2);
        Due.same("7 again", house.value(31, 5), 7);
        Due.same("in tick 4, behind the keeping of tick 3", house.told(1, 6), 4);
        Due.same("fall(0)", house.fall(0), 1);
        Due.same("9 once more", house.value(31, 5), 9);
    }

    /** "All that is left of the LOG is KEPT then, and those are ANSWERED." */
    private static void allThatIsLeftIsKept() {
        ActHouse house = unkept();
        Due.same("fall(4)", house.fall(4), 0);
        Due.same("kept", house.count(3), 4);
        Due.same("entries", house.count(2), 4);
        Due.same("answered before its tick", house.told(0, 0), 3);
        Due.same("done in its tick still", house.told(0, 6), 2);
        Due.same("counted", house.count(6), 1);
        Due.same("fall(0)", house.fall(0), 0);
        Due.same("it stays", house.told(0, 0), 3);
    }

    /** "in the order in which they are DONE now" */
    private static void orderOfTheDoneNow() {
        ActHouse house = new ActHouse();
        Due.lay(house, 0, Due.set(3), Due.write(0));
        Due.lay(house, 1, Due.set(4), Due.set(5), Due.write(1));
        Due.lay(house, 2, Due.set(4));
        house.go(4);
        house.act(2, 3, 0);
        house.act(0, 0, 0);
        house.act(1, 1, 0);
        house.go(3);
        Due.same("first", house.done(0), 0);
        Due.same("second", house.done(1), 1);
        house.limit(0, 0);
        Due.same("begun thrice, done: act 1 is lost", house.fall(4), 1);
        Due.same("act 0 is the first still", house.done(0), 0);
        Due.same("none is the second", house.done(1), -1);
        house.go(4);
        Due.same("act 2 is the second", house.done(1), 2);
        house.limit(0, 3);
        house.go(3);
        Due.same("act 1 is the third", house.done(2), 1);
        Due.same("none is the fourth", house.done(3), -1);
    }

    /** "The value .. as of a TICK t: by the ACTS that were DONE in TICKS up to t": those undone never were. */
    private static void historyWithoutTheUndone() {
        ActHouse house = new ActHouse();
        Due.lay(house, 0, Due.read(0), Due.add(1), Due.write(0));
        house.act(0, 0, 0);
        house.go(4);
        house.act(0, 0, 0);
        house.go(4);
        house.act(0, 0, 0);
        house.go(3);
        Due.same("NOW", house.count(0), 11);
        int[] before = {0, 0, 0, 1, 1, 1, 1, 2, 2, 2, 2, 2};
        for (int tick = 0; tick <= 11; tick++) {
            Due.same("before, as of " + tick, house.value(0, tick), before[tick]);
        }
        Due.same("fall(0)", house.fall(0), 0);
        house.go(5);
        Due.same("done again", house.told(2, 6), 14);
        for (int tick = 12; tick <= 16; tick++) {
            Due.same("as of " + tick, house.value(0, tick), tick < 14 ? 2 : 3);
        }
    }

    /** A FALL behind a FALL, in the same tick and with new entries between. */
    private static void fallBehindAFall() {
        ActHouse house = unkept();
        Due.same("fall(2)", house.fall(2), 1);
        Due.same("fall(1)", house.fall(1), -1);
        house.go(1);
        Due.same("begun again, kept in tick 3", house.count(3), 4);
        house.go(2);
        Due.same("entries", house.count(2), 7);
        Due.same("fall(4)", house.fall(4), -1);
        Due.same("fall(2)", house.fall(2), 0);
        Due.same("the done stays", house.told(0, 0), 3);
        Due.same("the stopped waits", house.told(1, 0), 0);
        Due.same("falls", house.count(8), 2);
        Due.same("undone once", house.told(0, 7), 1);
    }

    /** "TICKS are 0 .. 5000": a FALL can be in the last, and nothing is BEGUN behind it. */
    private static void fallInTheLastTick() {
        ActHouse house = new ActHouse();
        for (int i = 0; i < 24; i++) {
            house.go(200);
        }
        house.go(199);
        Due.lay(house, 0, Due.set(3), Due.write(0));
        house.act(0, 0, 0);
        Due.same("NOW", house.go(1), 5000);
        Due.same("begun", house.told(0, 9), 4999);
        Due.same("fall(1)", house.fall(1), -1);
        Due.same("fall(0)", house.fall(0), 0);
        Due.same("it waits", house.told(0, 0), 0);
        Due.same("go", house.go(200), 5000);
        Due.same("it waits still", house.told(0, 0), 0);
        Due.same("NOW still", house.count(0), 5000);
    }

    /** "how often it was undone and WAITED again (.. in FALLS, if it was BEGUN or DONE)" */
    private static void undoneAgainAndAgain() {
        ActHouse house = new ActHouse();
        Due.lay(house, 0, Due.set(3));
        house.act(0, 0, 0);
        for (int i = 1; i <= 20; i++) {
            house.go(1);
            Due.same("begun", house.told(0, 0), 1);
            Due.same("fall", house.fall(0), 0);
            Due.same("undone", house.told(0, 7), i);
            Due.same("a fall more leaves it", house.fall(0), 0);
            Due.same("undone still", house.told(0, 7), i);
        }
        house.go(2);
        Due.same("done", house.told(0, 0), 2);
        Due.same("fall", house.fall(0), 1);
        Due.same("undone", house.told(0, 7), 21);
        Due.same("falls", house.count(8), 41);
    }

    /** A FALL is of the LOG and the ACTS alone: NOW, PROGRAMS, limits and FLOORS are as they were. */
    private static void nowAndLimitsStay() {
        ActHouse house = new ActHouse();
        house.floor(0, -7);
        house.limit(0, 1);
        Due.lay(house, 0, Due.hot(0, -7), Due.set(0), Due.set(0));
        house.act(0, 0, 0);
        house.act(0, 0, 0);
        house.go(2);
        Due.same("fall(0)", house.fall(0), 0);
        Due.same("NOW", house.count(0), 2);
        Due.same("steps", house.step(0, Due.set(0)), 4);
        house.go(2);
        Due.same("one of the class", house.count(5), 1);
        Due.same("the floor lets -7", house.told(0, 5), 0);
    }
}
