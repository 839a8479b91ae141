/** Rings of waiting: promise 7, and what promises 9, 14 and 15 tell of them. */
public final class RingTest {
    public static void main(String[] args) {
        greatestNumberOfLikeOnes();
        begunLastGoes();
        ringOfThree();
        chainIsNoRing();
        whoWaitsBesideARingStays();
        twoRingsInATick();
        upgradeOfThreeReaders();
        begunAgainInTheSameTick();
        ringBreaksAtOtherWaitsToo();
        whatTheUndoneWasToGiveIsForgotten();
        waitsOfEarlierTicksAreForgotten();
        Due.end("RingTest");
    }

    /** A program that takes one cell, then another. */
    private static void layPair(ActHouse house, int program, int first, int second) {
        Due.lay(house, program, Due.write(first), Due.write(second), Due.set(0));
    }

    private static void greatestNumberOfLikeOnes() {
        ActHouse house = new ActHouse();
        layPair(house, 0, 0, 1);
        layPair(house, 1, 1, 0);
        house.act(0, 0, 9);
        house.act(1, 0, 0);
        house.limit(0, 2);
        house.go(2);
        house.limit(0, 0);
        house.go(1);
        Due.same("rank doesn't matter: the second goes", house.told(1, 0), 0);
        Due.same("the first stays", house.told(0, 0), 1);
        Due.same("and was held", house.told(0, 5), 1);
        Due.same("rings", house.count(7), 1);
        Due.same("told(1, 7)", house.told(1, 7), 1);
        Due.same("told(0, 7)", house.told(0, 7), 0);
        Due.same("it holds nothing", house.holds(1, 1), 0);
        Due.same("no register", house.register(1), Due.NO_VALUE);
        Due.same("no step", house.told(1, 4), -1);
        Due.same("not held, for it waits", house.told(1, 5), 0);
        Due.same("it was begun in", house.told(1, 9), 0);
        int last = house.count(2) - 1;
        Due.same("entry kind", house.log(last, 0), 4);
        Due.same("entry act", house.log(last, 1), 1);
        Due.same("entry cell", house.log(last, 2), -1);
        Due.same("entry tick", house.log(last, 3), 2);
        house.go(2);
        Due.same("the first is done", house.told(0, 6), 4);
    }

    private static void begunLastGoes() {
        ActHouse house = new ActHouse();
        layPair(house, 0, 0, 1);
        Due.lay(house, 1, Due.write(1), Due.set(0), Due.write(0), Due.set(0));
        house.limit(0, 1);
        house.act(0, 1, 0);
        house.act(1, 0, 0);
        // act 0 is of class 1 and comes one tick later, so it is begun last though its number is less
        house.limit(1, 0);
        house.go(1);
        house.limit(1, 1);
        house.go(2);
        Due.same("no ring yet", house.count(7), 0);
        house.go(1);
        Due.same("told(0, 7)", house.told(0, 7), 1);
        Due.same("told(1, 7)", house.told(1, 7), 0);
        Due.same("rings", house.count(7), 1);
    }

    private static void ringOfThree() {
        ActHouse house = new ActHouse();
        layPair(house, 0, 0, 1);
        layPair(house, 1, 1, 2);
        layPair(house, 2, 2, 0);
        for (int i = 0; i < 3; i++) {
            house.act(i, 0, 0);
        }
        house.go(3);
        Due.same("one is enough", house.count(7), 1);
        Due.same("told(2, 7)", house.told(2, 7), 1);
        Due.same("told(1, 7)", house.told(1, 7), 0);
        Due.same("told(0, 7)", house.told(0, 7), 0);
    }

    private static void chainIsNoRing() {
        ActHouse house = new ActHouse();
        Due.lay(house, 0, Due.write(0), Due.set(0), Due.set(0), Due.set(0));
        layPair(house, 1, 1, 0);
        layPair(house, 2, 2, 1);
        for (int i = 0; i < 3; i++) {
            house.act(i, 0, 0);
        }
        house.go(3);
        Due.same("held", house.told(1, 5), 1);
        Due.same("held behind it", house.told(2, 5), 1);
        Due.same("rings", house.count(7), 0);
        house.go(9);
        Due.same("all are done", house.count(6), 3);
    }

    private static void whoWaitsBesideARingStays() {
        ActHouse house = new ActHouse();
        layPair(house, 0, 0, 1);
        layPair(house, 1, 1, 0);
        layPair(house, 2, 2, 0);
        for (int i = 0; i < 3; i++) {
            house.act(i, 0, 0);
        }
        house.go(3);
        Due.same("the ring's", house.told(1, 7), 1);
        Due.same("the one beside", house.told(2, 7), 0);
        Due.same("is held", house.told(2, 5), 1);
        Due.same("rings", house.count(7), 1);
    }

    private static void twoRingsInATick() {
        ActHouse house = new ActHouse();
        layPair(house, 0, 0, 1);
        layPair(house, 1, 1, 0);
        layPair(house, 2, 2, 3);
        layPair(house, 3, 3, 2);
        for (int i = 0; i < 4; i++) {
            house.act(i, i, 0);
        }
        house.go(3);
        Due.same("rings", house.count(7), 2);
        int first = house.count(2) - 4;
        Due.same("first the greatest number", house.log(first, 1), 3);
        Due.same("kind", house.log(first, 0), 4);
        Due.same("then the other", house.log(first + 1, 1), 1);
        Due.same("kind of that", house.log(first + 1, 0), 4);
        Due.same("begun by rank and number", house.log(first + 2, 1), 1);
        Due.same("kind of the begun", house.log(first + 2, 0), 0);
        Due.same("and the last", house.log(first + 3, 1), 3);
    }

    private static void upgradeOfThreeReaders() {
        ActHouse house = new ActHouse();
        Due.lay(house, 0, Due.read(0), Due.add(1), Due.write(0));
        for (int i = 0; i < 3; i++) {
            house.act(0, 0, 0);
        }
        house.go(3);
        house.limit(0, 1);
        house.go(1);
        Due.same("two are undone", house.count(7), 2);
        Due.same("they wait", house.count(4), 2);
        Due.same("the first stays", house.told(0, 0), 1);
        house.go(20);
        Due.same("each added one", house.value(0, 24), 3);
        Due.same("in order", house.done(2), 2);
    }

    private static void begunAgainInTheSameTick() {
        ActHouse house = new ActHouse();
        Due.lay(house, 0, Due.read(0), Due.add(3), Due.write(0), Due.set(0));
        house.act(0, 0, 0);
        house.act(0, 0, 0);
        house.go(4);
        Due.same("undone", house.told(1, 7), 1);
        Due.same("but begun", house.told(1, 0), 1);
        Due.same("in this tick", house.told(1, 9), 3);
        Due.same("from the first step on", house.told(1, 4), 0);
        Due.same("its register is 0", house.register(1), 0);
        Due.same("it holds nothing", house.holds(1, 0), 0);
        Due.same("in this tick it was held", house.told(1, 5), 1);
        house.go(1);
        Due.same("in the next too, for the other writes", house.told(1, 5), 1);
        house.go(1);
        Due.same("then it was not", house.told(1, 5), 0);
        Due.same("its first step is done again", house.told(1, 4), 1);
    }

    /** The ring goes through an act that waits for two holders at once. */
    private static void ringBreaksAtOtherWaitsToo() {
        ActHouse house = new ActHouse();
        Due.lay(house, 0, Due.read(0), Due.write(1), Due.write(2), Due.set(0));
        Due.lay(house, 1, Due.read(0), Due.set(0), Due.set(0), Due.set(0), Due.set(0), Due.set(0));
        Due.lay(house, 2, Due.write(2), Due.set(0), Due.write(0), Due.set(0));
        for (int i = 0; i < 3; i++) {
            house.act(i, 0, 0);
        }
        house.go(4);
        Due.same("rings", house.count(7), 1);
        Due.same("the reader beside stays", house.told(1, 7), 0);
        Due.same("the greatest of the ring goes", house.told(2, 7), 1);
        Due.same("the other stays", house.told(0, 7), 0);
    }

    private static void whatTheUndoneWasToGiveIsForgotten() {
        ActHouse house = new ActHouse();
        house.floor(0, -5);
        Due.lay(house, 0, Due.read(0), Due.set(0), Due.set(0), Due.write(0));
        Due.lay(house, 1, Due.read(0), Due.hot(0, -5), Due.queue(7), Due.write(0));
        house.act(0, 0, 0);
        house.act(1, 0, 0);
        house.go(4);
        Due.same("all of the counter is taken", house.floor(0, -4), false);
        house.limit(0, 0);
        house.go(1);
        Due.same("the taker is undone", house.told(1, 7), 1);
        Due.same("nothing is taken", house.floor(0, -4), true);
        house.floor(0, -5);
        house.limit(0, 3);
        house.go(9);
        Due.same("done in the end", house.told(1, 0), 3);
        Due.same("given once", house.value(24, 14), -5);
        Due.same("queued once", house.count(1), 3);
    }

    /** Act 1's place in the row of the begun goes to act 2, whom act 0 never waited for. */
    private static void waitsOfEarlierTicksAreForgotten() {
        ActHouse house = new ActHouse();
        Due.lay(house, 0, Due.write(1), Due.read(0), Due.set(0), Due.set(0));
        Due.lay(house, 1, Due.write(0), Due.set(0), Due.set(0));
        Due.lay(house, 2, Due.set(0), Due.set(0), Due.set(0), Due.write(1), Due.set(0));
        for (int i = 0; i < 3; i++) {
            house.act(i, 0, 0);
        }
        house.go(4);
        Due.same("act 0 waited for act 1", house.told(0, 5), 1);
        house.go(1);
        Due.same("act 2 waits for act 0", house.told(2, 5), 1);
        Due.same("but act 0 goes on", house.told(0, 5), 0);
        Due.same("no ring", house.count(7), 0);
    }
}
