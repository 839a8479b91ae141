/** Promises 7 and 11: go and holds. */
public final class LockTest {
    public static void main(String[] args) {
        ticksGo();
        ticksEndAtFiveThousand();
        readersShareACell();
        writersAreAlone();
        locksEndWithTheAct();
        freedInTheSameTick();
        wrongQuestions();
        answeredOnEveryFourthTick();
        Due.end("LockTest");
    }

    private static void ticksGo() {
        ActHouse house = new ActHouse();
        Due.same("go(-1)", house.go(-1), -1);
        Due.same("go(201)", house.go(201), -1);
        Due.same("go(MIN)", house.go(Integer.MIN_VALUE), -1);
        Due.same("go(MAX)", house.go(Integer.MAX_VALUE), -1);
        Due.same("go(0)", house.go(0), 0);
        Due.same("go(200)", house.go(200), 200);
        Due.same("go(1)", house.go(1), 201);
    }

    private static void ticksEndAtFiveThousand() {
        ActHouse house = new ActHouse();
        house.go(190);
        for (int i = 0; i < 24; i++) {
            house.go(200);
        }
        Due.same("go(5)", house.go(5), 4995);
        Due.lay(house, 0, Due.set(4), Due.write(0), Due.set(0), Due.set(0), Due.set(0));
        house.act(0, 0, 0);
        Due.same("go(6)", house.go(6), 5000);
        Due.same("four steps", house.told(0, 4), 4);
        Due.same("go(200)", house.go(200), 5000);
        Due.same("nothing goes any more", house.told(0, 4), 4);
        Due.same("value(0, 5000)", house.value(0, 5000), 0);
        Due.same("value(0, 5001)", house.value(0, 5001), Due.NO_VALUE);
        Due.same("a fall can be", house.fall(0), 0);
        Due.same("it waits", house.told(0, 0), 0);
    }

    private static void readersShareACell() {
        ActHouse house = new ActHouse();
        Due.lay(house, 0, Due.read(3), Due.set(0), Due.set(0));
        Due.lay(house, 1, Due.sum(3), Due.set(0), Due.set(0), Due.set(0));
        Due.lay(house, 2, Due.set(8), Due.write(3), Due.set(0));
        house.act(0, 0, 0);
        house.act(1, 0, 0);
        house.act(2, 0, 0);
        house.go(3);
        Due.same("one reads", house.holds(0, 3), 1);
        Due.same("one sums", house.holds(1, 3), 1);
        Due.same("the writer is held", house.holds(2, 3), 0);
        Due.same("told(2, 5)", house.told(2, 5), 1);
        Due.same("told(0, 5)", house.told(0, 5), 0);
        house.go(1);
        Due.same("one reader is left", house.told(2, 5), 1);
        house.go(1);
        Due.same("none is left", house.told(2, 5), 0);
        Due.same("it writes", house.holds(2, 3), 2);
    }

    private static void writersAreAlone() {
        ActHouse house = new ActHouse();
        Due.lay(house, 0, Due.write(3), Due.read(3), Due.set(0), Due.set(0));
        Due.lay(house, 1, Due.read(3), Due.set(0));
        Due.lay(house, 2, Due.sum(3), Due.set(0));
        Due.lay(house, 3, Due.write(3), Due.set(0));
        for (int i = 0; i < 4; i++) {
            house.act(i, i, i);
        }
        house.go(3);
        Due.same("its own read", house.told(0, 5), 0);
        Due.same("to write yet", house.holds(0, 3), 2);
        for (int i = 1; i < 4; i++) {
            Due.same("held: " + i, house.told(i, 5), 1);
            Due.same("holds nothing: " + i, house.holds(i, 3), 0);
        }
        Due.same("read, then write", readThenWrite(), 2);
    }

    private static int readThenWrite() {
        ActHouse house = new ActHouse();
        Due.lay(house, 0, Due.read(1), Due.write(1), Due.set(0));
        house.act(0, 0, 0);
        house.go(2);
        Due.same("to read", house.holds(0, 1), 1);
        house.go(1);
        return house.holds(0, 1);
    }

    private static void locksEndWithTheAct() {
        ActHouse house = new ActHouse();
        Due.lay(house, 0, Due.write(0), Due.read(1));
        house.act(0, 0, 0);
        house.go(2);
        Due.same("begun", house.holds(0, 0), 2);
        house.go(1);
        Due.same("done: cell 0", house.holds(0, 0), 0);
        Due.same("done: cell 1", house.holds(0, 1), 0);
    }

    private static void freedInTheSameTick() {
        ActHouse house = new ActHouse();
        Due.lay(house, 0, Due.write(0), Due.set(6), Due.write(0));
        Due.lay(house, 1, Due.read(0), Due.set(0));
        house.act(0, 0, 1);
        house.act(1, 0, 2);
        house.go(3);
        Due.same("the one behind is held", house.told(1, 5), 1);
        house.go(1);
        Due.same("the writer is done", house.told(0, 6), 3);
        Due.same("in that tick the one behind goes on", house.told(1, 5), 0);
        Due.same("and sees the new value", house.register(1), 6);
        ActHouse other = new ActHouse();
        Due.lay(other, 0, Due.write(0), Due.set(6), Due.write(0));
        Due.lay(other, 1, Due.read(0), Due.set(0));
        other.limit(0, 1);
        other.act(0, 0, 1);
        other.go(1);
        other.limit(0, 2);
        other.act(1, 0, 0);
        other.go(3);
        Due.same("the writer is done here too", other.told(0, 6), 3);
        Due.same("but the one before was held in that tick", other.told(1, 5), 1);
        other.go(1);
        Due.same("and goes on in the next", other.register(1), 6);
    }

    private static void wrongQuestions() {
        ActHouse house = new ActHouse();
        house.act(0, 0, 0);
        for (int far : Due.FAR) {
            Due.same("holds(0, " + far + ")", house.holds(0, far), -1);
            Due.same("holds(" + far + ", 0)", house.holds(far, 0), -1);
        }
        Due.same("holds(0, 24)", house.holds(0, 24), -1);
        Due.same("holds(1, 0)", house.holds(1, 0), -1);
        Due.same("holds(0, 23)", house.holds(0, 23), 0);
    }

    private static void answeredOnEveryFourthTick() {
        ActHouse house = new ActHouse();
        Due.lay(house, 0, Due.set(1));
        house.act(0, 0, 0);
        house.go(2);
        Due.same("done", house.told(0, 0), 2);
        house.go(1);
        Due.same("not kept yet", house.told(0, 0), 2);
        Due.same("kept", house.count(3), 0);
        house.go(1);
        Due.same("answered", house.told(0, 0), 3);
        Due.same("kept now", house.count(3), 2);
        house.act(0, 0, 0);
        house.go(3);
        Due.same("the next waits for tick 7", house.told(1, 0), 2);
        house.go(1);
        Due.same("and is answered then", house.told(1, 0), 3);
    }
}
