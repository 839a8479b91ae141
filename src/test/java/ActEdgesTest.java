/** The edges that part 2 of the document's Terms names: a sentence of it stands above each test. */
public final class ActEdgesTest {
    public static void main(String[] args) {
        numbersAsTheyCome();
        stepsAsTheyAreWhenItBegins();
        stepsWhenItBeginsAgain();
        noStepsWhenItWouldBeginAgain();
        firstAndLastClass();
        firstAndLastRank();
        registerAsItBeginsAgain();
        locksTillDone();
        locksTillStopped();
        locksTillUndoneInARing();
        locksTillUndoneInAFall();
        readBesideAReader();
        readBesideAWriter();
        sumBesideAReader();
        sumBesideAWriter();
        readOfItsOwnWritten();
        writeBesideAReader();
        writeBesideAWriter();
        writeOfItsOwnRead();
        writeTwice();
        hotToTheFloor();
        hotBelowTheFloor();
        hotWithItsOwn();
        hotWithThatOfOthers();
        hotAboveZeroToComeDoesNotCount();
        hotOfZeroOrMoreCanAlwaysBe();
        hotOfThoseNoMoreBegun();
        hotOfOneBegunAgain();
        hotAtTheLowestFloor();
        writtenForItAlone();
        Due.end("ActEdgesTest");
    }

    /** "ACTS have numbers as they come, at most 80" */
    private static void numbersAsTheyCome() {
        ActHouse house = new ActHouse();
        Due.lay(house, 0, Due.queue(1), Due.queue(2));
        for (int i = 0; i < 78; i++) {
            Due.same("act " + i, house.act(i == 0 ? 0 : 7, 0, 9 - i % 10), i);
        }
        house.go(3);
        Due.same("two were queued", house.count(1), 80);
        Due.same("number 78", house.told(78, 1), 1);
        Due.same("number 79", house.told(79, 1), 2);
        Due.same("number 80", house.told(80, 1), -1);
        Due.same("no act more", house.act(0, 0, 0), -1);
        Due.same("80 still", house.count(1), 80);
    }

    /** "a PROGRAM (its STEPS as they are when it begins)" */
    private static void stepsAsTheyAreWhenItBegins() {
        ActHouse house = new ActHouse();
        Due.lay(house, 0, Due.set(5));
        house.act(0, 0, 0);
        Due.same("a step more before it begins", house.step(0, Due.add(1)), 2);
        house.go(1);
        Due.same("a step more behind", house.step(0, Due.add(9)), 3);
        house.go(1);
        Due.same("the second step is one of its", house.told(0, 4), 1);
        house.go(1);
        Due.same("the third is not", house.told(0, 6), 2);
    }

    /** Two acts of one program that get into a ring in tick 3; act 1 is undone then. */
    private static ActHouse beforeTheRing() {
        ActHouse house = new ActHouse();
        Due.lay(house, 0, Due.read(0), Due.add(3), Due.write(0));
        house.act(0, 0, 0);
        house.act(0, 0, 0);
        house.go(3);
        Due.same("no ring yet", house.count(7), 0);
        return house;
    }

    /** "(its STEPS as they are when it begins)": anew, when it is BEGUN again */
    private static void stepsWhenItBeginsAgain() {
        ActHouse house = beforeTheRing();
        Due.lay(house, 0, Due.set(8), Due.write(1), Due.set(0), Due.set(0));
        house.go(1);
        Due.same("undone", house.told(1, 7), 1);
        Due.same("begun again", house.told(1, 9), 3);
        house.go(4);
        Due.same("the old steps", house.value(0, 8), 3);
        Due.same("the new ones", house.value(1, 8), 8);
        Due.same("done later", house.told(1, 6), 7);
    }

    /** "its PROGRAM has STEPS": if it has none any more, it stays as one that WAITS. */
    private static void noStepsWhenItWouldBeginAgain() {
        ActHouse house = beforeTheRing();
        Due.same("program(0)", house.program(0), true);
        house.go(3);
        Due.same("undone", house.told(1, 7), 1);
        Due.same("it waits", house.told(1, 0), 0);
        Due.same("the other went on", house.value(0, 6), 3);
        house.step(0, Due.set(1));
        house.go(1);
        Due.same("begun", house.told(1, 0), 1);
    }

    /** "a CLASS (0 .. 3)" */
    private static void firstAndLastClass() {
        ActHouse house = new ActHouse();
        Due.same("-1", house.act(0, -1, 0), -1);
        Due.same("0", house.act(0, 0, 0), 0);
        Due.same("4", house.act(0, 4, 0), -1);
        Due.same("3", house.act(0, 3, 0), 1);
        Due.same("told", house.told(1, 2), 3);
    }

    /** "a RANK (0 .. 9)" */
    private static void firstAndLastRank() {
        ActHouse house = new ActHouse();
        Due.lay(house, 0, Due.set(1));
        house.limit(0, 1);
        Due.same("-1", house.act(0, 0, -1), -1);
        Due.same("9", house.act(0, 0, 9), 0);
        Due.same("10", house.act(0, 0, 10), -1);
        Due.same("0", house.act(0, 0, 0), 1);
        Due.same("told", house.told(0, 3), 9);
        house.go(3);
        Due.same("0 goes before 9", house.done(0), 1);
        Due.same("and 9 behind", house.done(1), 0);
    }

    /** "It has a REGISTER (0 as it begins)" */
    private static void registerAsItBeginsAgain() {
        ActHouse house = beforeTheRing();
        Due.same("before", house.register(1), 3);
        house.go(1);
        Due.same("begun again", house.told(1, 0), 1);
        Due.same("in a ring", house.register(1), 0);
        Due.same("fall(0)", house.fall(0), 0);
        house.go(3);
        Due.same("before the ring again", house.register(0), 3);
        house.fall(0);
        house.go(1);
        Due.same("in a fall", house.register(0), 0);
    }

    /** "an ACT that is BEGUN holds CELLS .. till it is no more BEGUN": DONE */
    private static void locksTillDone() {
        ActHouse house = new ActHouse();
        Due.lay(house, 0, Due.read(0), Due.sum(1), Due.write(2), Due.set(0));
        house.act(0, 0, 0);
        house.go(4);
        Due.same("to read", house.holds(0, 0), 1);
        Due.same("to sum", house.holds(0, 1), 1);
        Due.same("to write", house.holds(0, 2), 2);
        Due.same("not", house.holds(0, 3), 0);
        house.go(1);
        Due.same("done", house.told(0, 0), 2);
        for (int cell = 0; cell < 3; cell++) {
            Due.same("no more: " + cell, house.holds(0, cell), 0);
        }
    }

    /** The same: STOPPED; another can take the cell in that tick. */
    private static void locksTillStopped() {
        ActHouse house = new ActHouse();
        Due.lay(house, 0, Due.set(-1), Due.write(2), Due.check());
        Due.lay(house, 1, Due.set(4), Due.write(2), Due.set(0));
        house.act(0, 0, 0);
        house.act(1, 0, 0);
        house.go(3);
        Due.same("held to write", house.holds(0, 2), 2);
        Due.same("the other is held", house.told(1, 5), 1);
        house.go(1);
        Due.same("stopped", house.told(0, 0), 4);
        Due.same("no more", house.holds(0, 2), 0);
        Due.same("the other has it", house.holds(1, 2), 2);
    }

    /** The same: undone in a ring */
    private static void locksTillUndoneInARing() {
        ActHouse house = beforeTheRing();
        Due.same("both read", house.holds(0, 0) + house.holds(1, 0), 2);
        house.limit(0, 1);
        house.go(1);
        Due.same("undone", house.told(1, 0), 0);
        Due.same("no more", house.holds(1, 0), 0);
        house.go(1);
        Due.same("the other writes", house.told(0, 6), 4);
    }

    /** The same: undone in a fall */
    private static void locksTillUndoneInAFall() {
        ActHouse house = beforeTheRing();
        house.fall(0);
        Due.same("no more: 0", house.holds(0, 0), 0);
        Due.same("no more: 1", house.holds(1, 0), 0);
        house.limit(0, 0);
        Due.lay(house, 1, Due.write(0), Due.set(0));
        house.act(1, 1, 0);
        house.go(2);
        Due.same("another can write", house.holds(2, 0), 2);
    }

    /** How act 1 fares at its first step, once act 0 has done its own. */
    private static int beside(int first, int second) {
        ActHouse house = new ActHouse();
        Due.lay(house, 0, first, Due.set(0), Due.set(0));
        Due.lay(house, 1, second, Due.set(0), Due.set(0));
        house.act(0, 0, 0);
        house.act(1, 0, 0);
        house.go(2);
        Due.same("the first is not held", house.told(0, 5), 0);
        Due.same("told what it holds", house.holds(1, 5) > 0, house.told(1, 5) == 0);
        return house.told(1, 5);
    }

    /** "A READ or SUM can be if no other ACT holds the CELL to write" */
    private static void readBesideAReader() {
        Due.same("read, read", beside(Due.read(5), Due.read(5)), 0);
        Due.same("sum, read", beside(Due.sum(5), Due.read(5)), 0);
    }

    /** The same: it does */
    private static void readBesideAWriter() {
        Due.same("write, read", beside(Due.write(5), Due.read(5)), 1);
        Due.same("write of another cell, read", beside(Due.write(4), Due.read(5)), 0);
    }

    /** The same, of SUM */
    private static void sumBesideAReader() {
        Due.same("read, sum", beside(Due.read(5), Due.sum(5)), 0);
        Due.same("sum, sum", beside(Due.sum(5), Due.sum(5)), 0);
    }

    /** The same, of SUM: it does */
    private static void sumBesideAWriter() {
        Due.same("write, sum", beside(Due.write(5), Due.sum(5)), 1);
    }

    /** "no other ACT": its own holding to write is no hindrance, and stays one to write. */
    private static void readOfItsOwnWritten() {
        ActHouse house = new ActHouse();
        Due.lay(house, 0, Due.set(6), Due.write(5), Due.read(5), Due.sum(5), Due.set(0));
        Due.lay(house, 1, Due.set(0), Due.set(0), Due.set(0), Due.read(5), Due.set(0));
        house.act(0, 0, 0);
        house.act(1, 0, 0);
        house.go(5);
        Due.same("its own", house.register(0), 12);
        Due.same("to write", house.holds(0, 5), 2);
        Due.same("the other is held", house.told(1, 5), 1);
    }

    /** "a WRITE if no other ACT holds it at all" */
    private static void writeBesideAReader() {
        Due.same("read, write", beside(Due.read(5), Due.write(5)), 1);
        Due.same("sum, write", beside(Due.sum(5), Due.write(5)), 1);
        Due.same("read of another cell, write", beside(Due.read(6), Due.write(5)), 0);
    }

    /** The same, of one that holds it to write */
    private static void writeBesideAWriter() {
        Due.same("write, write", beside(Due.write(5), Due.write(5)), 1);
    }

    /** "no other ACT": its own holding to read becomes one to write, unless another reads too. */
    private static void writeOfItsOwnRead() {
        ActHouse house = new ActHouse();
        Due.lay(house, 0, Due.read(5), Due.write(5), Due.set(0));
        house.act(0, 0, 0);
        house.go(2);
        Due.same("to read", house.holds(0, 5), 1);
        house.go(1);
        Due.same("to write", house.holds(0, 5), 2);
        ActHouse other = new ActHouse();
        Due.lay(other, 0, Due.read(5), Due.write(5), Due.set(0));
        Due.lay(other, 1, Due.read(5), Due.set(0), Due.set(0));
        other.act(0, 0, 0);
        other.act(1, 0, 0);
        other.go(3);
        Due.same("held by the other's reading", other.told(0, 5), 1);
        Due.same("to read still", other.holds(0, 5), 1);
    }

    /** "CELL a gets the REGISTER's value": of two WRITES the last counts. */
    private static void writeTwice() {
        ActHouse house = new ActHouse();
        Due.lay(house, 0, Due.set(6), Due.write(5), Due.set(0), Due.write(5));
        house.act(0, 0, 0);
        house.go(5);
        Due.same("done", house.told(0, 6), 4);
        Due.same("0 was written last", house.value(5, 5), 0);
        Due.same("both have entries", house.count(2), 4);
    }

    /** How an act fares at HOT steps on a counter with this floor: 1 if it is held at the last of them. */
    private static int heldAtTheLast(int floor, int... parts) {
        ActHouse house = new ActHouse();
        Due.same("floor(3, " + floor + ")", house.floor(3, floor), true);
        for (int part : parts) {
            house.step(0, Due.hot(3, part));
        }
        house.step(0, Due.set(0));
        house.act(0, 0, 0);
        house.go(parts.length + 1);
        Due.same("it came to the last", house.told(0, 4) >= parts.length - 1, true);
        return house.told(0, 5);
    }

    /** "HOT with b - 50 below 0 can be if the COUNTER's value .. is not below its FLOOR" */
    private static void hotToTheFloor() {
        Due.same("-1 to -1", heldAtTheLast(-1, -1), 0);
        Due.same("-50 to -50", heldAtTheLast(-50, -50), 0);
    }

    /** The same: it is below */
    private static void hotBelowTheFloor() {
        Due.same("-1 to 0", heldAtTheLast(0, -1), 1);
        Due.same("-50 to -49", heldAtTheLast(-49, -50), 1);
    }

    /** "(its own, too, and this)" */
    private static void hotWithItsOwn() {
        Due.same("-3 and -2 to -5", heldAtTheLast(-5, -3, -2), 0);
        Due.same("-3 and -3 to -5", heldAtTheLast(-5, -3, -3), 1);
    }

    /** "with all that is less than 0 of what ACTS that are BEGUN are to give it" */
    private static void hotWithThatOfOthers() {
        for (int floor = -6; floor <= -5; floor++) {
            ActHouse house = new ActHouse();
            house.floor(3, floor);
            Due.lay(house, 0, Due.hot(3, -2), Due.set(0), Due.set(0));
            for (int i = 0; i < 3; i++) {
                house.act(0, i, 0);
            }
            house.go(2);
            Due.same("the second", house.told(1, 5), 0);
            Due.same("the third, with floor " + floor, house.told(2, 5), floor == -6 ? 0 : 1);
        }
    }

    /** "all that is less than 0": what is above is no help before it is there. */
    private static void hotAboveZeroToComeDoesNotCount() {
        Due.same("9 and -1 to 0", heldAtTheLast(0, 9, -1), 1);
        Due.same("-1 and 9 and -1 to -1", heldAtTheLast(-1, -1, 9, -1), 1);
        Due.same("-1 and 9 and -1 to -2", heldAtTheLast(-2, -1, 9, -1), 0);
    }

    /** "HOT with b - 50 below 0 can be if": else it can, though the value is below the floor by a fall. */
    private static void hotOfZeroOrMoreCanAlwaysBe() {
        ActHouse house = new ActHouse();
        house.floor(0, -5);
        Due.lay(house, 0, Due.hot(0, -5));
        Due.lay(house, 1, Due.hot(0, 5));
        Due.lay(house, 2, Due.hot(0, 0));
        Due.lay(house, 3, Due.hot(0, 1));
        Due.lay(house, 4, Due.hot(0, -1));
        house.act(0, 0, 0);
        house.go(4);
        house.act(1, 0, 0);
        house.go(2);
        Due.same("floor(0, 0)", house.floor(0, 0), true);
        house.program(1);
        Due.same("fall(0)", house.fall(0), 1);
        Due.same("below its floor", house.value(24, 6), -5);
        house.act(2, 1, 0);
        house.act(3, 2, 0);
        house.act(4, 3, 0);
        house.go(2);
        Due.same("0", house.told(2, 6), 7);
        Due.same("1", house.told(3, 6), 7);
        Due.same("-1", house.told(4, 5), 1);
    }

    /** "ACTS that are BEGUN": what STOPPED and undone ones were to give is none any more. */
    private static void hotOfThoseNoMoreBegun() {
        ActHouse house = new ActHouse();
        house.floor(0, -5);
        Due.lay(house, 0, Due.hot(0, -5), Due.set(-1), Due.check());
        Due.lay(house, 1, Due.set(0), Due.hot(0, -5), Due.set(0));
        house.act(0, 0, 0);
        house.act(1, 0, 0);
        house.go(3);
        Due.same("held", house.told(1, 5), 1);
        house.go(1);
        Due.same("stopped", house.told(0, 0), 4);
        Due.same("not held", house.told(1, 5), 0);
        Due.same("floor(0, -4) can't be", house.floor(0, -4), false);
        house.fall(0);
        Due.same("undone in a fall: it can", house.floor(0, -4), true);
    }

    /** "of what ACTS that are BEGUN are to give it": anew, if one is BEGUN again, not twice and not less. */
    private static void hotOfOneBegunAgain() {
        ActHouse house = new ActHouse();
        house.floor(0, -20);
        Due.lay(house, 0, Due.hot(0, -5), Due.hot(0, 2), Due.set(0), Due.set(0));
        house.act(0, 0, 0);
        house.go(3);
        house.fall(0);
        house.go(3);
        Due.same("to come is -5", house.floor(0, -4), false);
        Due.same("not less", house.floor(0, -5), true);
        house.go(2);
        Due.same("and -3 is given", house.value(24, 8), -3);
    }

    /** "A COUNTER's FLOOR (-1000 .. 0)": the counter comes to the lowest, and no farther. */
    private static void hotAtTheLowestFloor() {
        ActHouse house = new ActHouse();
        Due.same("floor", house.floor(0, -1000), true);
        for (int i = 0; i < 10; i++) {
            house.step(0, Due.hot(0, -50));
        }
        house.act(0, 0, 0);
        house.act(0, 0, 0);
        Due.lay(house, 1, Due.hot(0, -1));
        house.go(11);
        Due.same("-1000", house.value(24, 11), -1000);
        house.act(1, 0, 0);
        house.go(9);
        Due.same("held", house.told(2, 5), 1);
        Due.same("the floor can be set there", house.floor(0, -1000), true);
        Due.same("not above", house.floor(0, -999), false);
    }

    /** "Values of CELLS that an ACT writes are the new ones for it alone; others can't see them before it is DONE." */
    private static void writtenForItAlone() {
        ActHouse house = new ActHouse();
        Due.lay(house, 0, Due.set(6), Due.write(5), Due.set(0), Due.read(5), Due.set(0));
        Due.lay(house, 1, Due.read(5), Due.set(0));
        house.act(0, 0, 0);
        house.go(5);
        Due.same("it sees the new one", house.register(0), 6);
        Due.same("the cell is as it was", house.value(5, 5), 0);
        house.act(1, 0, 0);
        house.go(1);
        Due.same("done", house.told(0, 6), 5);
        Due.same("the cell is the new one", house.value(5, 6), 6);
        Due.same("not before", house.value(5, 4), 0);
        house.go(1);
        Due.same("others see it", house.register(1), 6);
    }
}
