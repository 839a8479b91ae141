/** The edges that part 3 of the document's Terms names: a sentence of it stands above each test. */
public final class TickEdgesTest {
    public static void main(String[] args) {
        leastRankFirst();
        likeRanksByNumber();
        doneAtOnce();
        doneInTheSameTickAsOthers();
        queuedIfThereIsRoom();
        queuedIfThereIsNoRoom();
        queuedInOrder();
        queuedBegunInThatTick();
        queuedByAStoppedOne();
        ownLocksAreNoRing();
        aHolderThatGoesOnIsNoRing();
        aHolderDoneInThatTickIsNoRing();
        ringOfTwo();
        ringThroughEveryHolder();
        begunLast();
        likeOnesByNumber();
        oneIsUndoneAtATime();
        ringsWhileThereAre();
        heldAtACounterWaitsForNobody();
        heldAtACounterIsNotAtTheCellOfItsNumber();
        ringThroughAllCells();
        ringsOfAllThatCanBeBegun();
        threeOfAClassAtFirst();
        limitOfNone();
        limitOfNine();
        placesFreedInThatTick();
        withoutStepsNoPlaceIsTaken();
        beginByRankAndNumber();
        keptAtTheRestOfThree();
        keptWithAllOfThatTick();
        keptInTheLastTick();
        entryOfEachWrite();
        entriesOfAStoppedOne();
        Due.end("TickEdgesTest");
    }

    /** "by RANK (the least first)" */
    private static void leastRankFirst() {
        ActHouse house = new ActHouse();
        Due.lay(house, 0, Due.write(0), Due.set(0));
        house.act(0, 0, 1);
        house.act(0, 1, 0);
        house.go(2);
        Due.same("rank 0 steps first", house.holds(1, 0), 2);
        Due.same("rank 1 is held", house.told(0, 5), 1);
    }

    /** "of like ones by number" */
    private static void likeRanksByNumber() {
        ActHouse house = new ActHouse();
        Due.lay(house, 0, Due.write(0), Due.set(0));
        house.act(0, 3, 9);
        house.act(0, 0, 9);
        house.go(2);
        Due.same("number 0 steps first", house.holds(0, 0), 2);
        Due.same("number 1 is held", house.told(1, 5), 1);
    }

    /** "Behind its last STEP (or if nothing is left) it is DONE at once" */
    private static void doneAtOnce() {
        ActHouse house = new ActHouse();
        Due.lay(house, 0, Due.write(0));
        Due.lay(house, 1, Due.set(-1), Due.skip(9), Due.set(0), Due.set(0));
        house.act(0, 0, 0);
        house.act(1, 0, 0);
        house.go(1);
        Due.same("not in the tick in which it is begun", house.told(0, 0), 1);
        house.go(1);
        Due.same("in that of its last step", house.told(0, 6), 1);
        house.go(1);
        Due.same("in that of the skip", house.told(1, 6), 2);
        Due.same("entries", house.count(2), 5);
        Due.same("the write", house.log(2, 0), 1);
        Due.same("then done, in the same tick", house.log(3, 0), 2);
        Due.same("tick", house.log(3, 3), 1);
    }

    /** "it is DONE at once": those behind it in the row find its cells free and new. */
    private static void doneInTheSameTickAsOthers() {
        ActHouse house = new ActHouse();
        Due.lay(house, 0, Due.set(3), Due.write(0));
        Due.lay(house, 1, Due.set(4), Due.write(0));
        Due.lay(house, 2, Due.set(5), Due.sum(0));
        house.act(0, 0, 0);
        house.act(1, 0, 0);
        house.act(2, 0, 0);
        house.go(3);
        for (int i = 0; i < 3; i++) {
            Due.same("done in tick 2: " + i, house.told(i, 6), 2);
            Due.same("in order: " + i, house.done(i), i);
        }
        Due.same("the last that wrote counts", house.value(0, 2), 4);
        Due.same("none was before", house.value(0, 1), 0);
    }

    /** A house with so many acts, of which act 0 queues programs 1, 2, 3 and is done in tick 4. */
    private static ActHouse withActs(int many) {
        ActHouse house = new ActHouse();
        Due.lay(house, 0, Due.queue(1), Due.queue(2), Due.queue(3), Due.set(0));
        for (int i = 0; i < many; i++) {
            house.act(i == 0 ? 0 : 7, 0, 0);
        }
        house.go(4);
        Due.same("none came yet", house.count(1), many);
        house.go(1);
        Due.same("it is done", house.told(0, 6), 4);
        return house;
    }

    /** "what it QUEUED comes as ACTS (in order, if there is room; those beyond 80 don't)" */
    private static void queuedIfThereIsRoom() {
        for (int many = 76; many <= 79; many++) {
            ActHouse house = withActs(many);
            Due.same("acts", house.count(1), Math.min(many + 3, 80));
            for (int number = many; number < 80 && number < many + 3; number++) {
                Due.same("program of " + number, house.told(number, 1), number - many + 1);
                Due.same("queued by", house.told(number, 8), 0);
            }
        }
    }

    /** "those beyond 80 don't": none has room. */
    private static void queuedIfThereIsNoRoom() {
        ActHouse house = withActs(80);
        Due.same("acts", house.count(1), 80);
        Due.same("the last is as it was", house.told(79, 1), 7);
        Due.same("the last was queued by none", house.told(79, 8), -1);
    }

    /** "in order": also those of two acts that are DONE in one tick, and one PROGRAM twice. */
    private static void queuedInOrder() {
        ActHouse house = new ActHouse();
        Due.lay(house, 0, Due.queue(7), Due.queue(5), Due.queue(7));
        Due.lay(house, 1, Due.queue(6), Due.set(0), Due.set(0));
        house.act(0, 0, 9);
        house.act(1, 1, 1);
        house.go(4);
        int[] programs = {6, 7, 5, 7};
        int[] by = {1, 0, 0, 0};
        int[] kinds = {1, 0, 0, 0};
        int[] ranks = {1, 9, 9, 9};
        Due.same("acts", house.count(1), 6);
        for (int i = 0; i < 4; i++) {
            Due.same("program of " + (i + 2), house.told(i + 2, 1), programs[i]);
            Due.same("class of " + (i + 2), house.told(i + 2, 2), kinds[i]);
            Due.same("rank of " + (i + 2), house.told(i + 2, 3), ranks[i]);
            Due.same("who queued " + (i + 2), house.told(i + 2, 8), by[i]);
        }
    }

    /** "(1) .. what it QUEUED comes as ACTS": it WAITS, and is BEGUN in (3) of that tick. */
    private static void queuedBegunInThatTick() {
        ActHouse house = new ActHouse();
        Due.lay(house, 0, Due.queue(0));
        house.act(0, 0, 0);
        house.go(10);
        for (int number = 0; number < 9; number++) {
            Due.same("begun: " + number, house.told(number, 9), number);
            Due.same("done: " + number, house.told(number, 6), number + 1);
        }
        Due.same("acts", house.count(1), 10);
        house.go(100);
        Due.same("till there is no room", house.count(1), 80);
        Due.same("the last is done", house.told(79, 6), 80);
        Due.same("and queued nobody", house.count(6), 80);
    }

    /** "STOPPED: nothing of it counts." */
    private static void queuedByAStoppedOne() {
        ActHouse house = new ActHouse();
        Due.lay(house, 0, Due.queue(1), Due.hot(0, 9), Due.set(-1), Due.write(0), Due.check());
        house.act(0, 0, 0);
        house.go(6);
        Due.same("stopped", house.told(0, 0), 4);
        Due.same("nobody came", house.count(1), 1);
        Due.same("counter", house.value(24, 6), 0);
        Due.same("cell", house.value(0, 6), 0);
        Due.same("done in no tick", house.told(0, 6), -1);
        house.go(9);
        Due.same("it stays stopped", house.told(0, 0), 4);
        Due.same("undone never", house.told(0, 7), 0);
    }

    /** "waits for each other one": an act is never in a ring by what it holds itself. */
    private static void ownLocksAreNoRing() {
        ActHouse house = new ActHouse();
        Due.lay(house, 0, Due.read(0), Due.write(0), Due.read(0), Due.write(0), Due.set(0));
        house.act(0, 0, 0);
        house.go(6);
        Due.same("done", house.told(0, 6), 5);
        Due.same("rings", house.count(7), 0);
    }

    /** "an ACT that is HELD at a CELL waits": one that goes on does not. */
    private static void aHolderThatGoesOnIsNoRing() {
        ActHouse house = new ActHouse();
        Due.lay(house, 0, Due.write(0), Due.set(0), Due.set(0), Due.set(0));
        Due.lay(house, 1, Due.write(1), Due.write(0), Due.set(0));
        house.act(0, 0, 0);
        house.act(1, 0, 0);
        house.go(4);
        Due.same("held", house.told(1, 5), 1);
        Due.same("rings", house.count(7), 0);
        Due.same("undone", house.told(1, 7), 0);
    }

    /** "(2)" looks at the cells as (1) left them: who was HELD by one that is DONE since waits for nobody. */
    private static void aHolderDoneInThatTickIsNoRing() {
        ActHouse house = new ActHouse();
        Due.lay(house, 0, Due.write(0), Due.set(0), Due.set(0));
        Due.lay(house, 1, Due.write(1), Due.set(0), Due.write(0), Due.set(0));
        house.act(0, 0, 9);
        house.act(1, 0, 0);
        house.go(4);
        Due.same("held in tick 3", house.told(1, 5), 1);
        Due.same("by one that was done in it", house.told(0, 6), 3);
        Due.same("rings", house.count(7), 0);
        house.go(1);
        Due.same("it goes on", house.holds(1, 0), 2);
    }

    /** "an ACT that waits, by others, for itself" */
    private static void ringOfTwo() {
        ActHouse house = new ActHouse();
        Due.lay(house, 0, Due.write(0), Due.read(1), Due.set(0));
        Due.lay(house, 1, Due.write(1), Due.sum(0), Due.set(0));
        house.act(0, 0, 0);
        house.act(1, 1, 0);
        house.go(2);
        Due.same("not before both are held", house.count(7), 0);
        house.go(1);
        Due.same("rings", house.count(7), 1);
        Due.same("the first stays", house.told(0, 7), 0);
        Due.same("the second is undone", house.told(1, 7), 1);
    }

    /** "waits for each other one that holds that CELL": the ring goes by the second reader. */
    private static void ringThroughEveryHolder() {
        ActHouse house = new ActHouse();
        Due.lay(house, 0, Due.read(0), Due.set(0), Due.set(0), Due.set(0), Due.set(0));
        Due.lay(house, 1, Due.read(0), Due.read(1), Due.set(0));
        Due.lay(house, 2, Due.write(1), Due.write(0), Due.set(0));
        house.act(0, 0, 0);
        house.act(1, 0, 0);
        house.act(2, 0, 0);
        house.go(3);
        Due.same("rings", house.count(7), 1);
        Due.same("the reader beside stays", house.told(0, 7), 0);
        Due.same("the other reader too", house.told(1, 7), 0);
        Due.same("the writer is undone", house.told(2, 7), 1);
    }

    /** "of all such ACTS the one that was BEGUN last": its number is the least, its rank the least. */
    private static void begunLast() {
        ActHouse house = new ActHouse();
        Due.lay(house, 0, Due.write(0), Due.write(1), Due.set(0));
        Due.lay(house, 1, Due.write(1), Due.set(0), Due.write(0), Due.set(0));
        house.limit(0, 0);
        house.act(0, 0, 0);
        house.act(1, 1, 9);
        house.go(1);
        house.limit(0, 1);
        house.go(3);
        Due.same("rings", house.count(7), 1);
        Due.same("act 0, begun in tick 1, was undone", house.told(0, 7), 1);
        Due.same("act 1, begun in tick 0, was not", house.told(1, 7), 0);
    }

    /** "(of like ones the greatest number)" */
    private static void likeOnesByNumber() {
        ActHouse house = new ActHouse();
        Due.lay(house, 0, Due.write(0), Due.write(1), Due.set(0));
        Due.lay(house, 1, Due.write(1), Due.write(0), Due.set(0));
        house.act(0, 0, 9);
        house.act(1, 1, 0);
        house.go(3);
        Due.same("the lesser number stays", house.told(0, 7), 0);
        Due.same("the greater is undone", house.told(1, 7), 1);
    }

    /** "While there is": once the ring is open, nobody else is undone. */
    private static void oneIsUndoneAtATime() {
        ActHouse house = new ActHouse();
        Due.lay(house, 0, Due.write(0), Due.write(1), Due.set(0));
        Due.lay(house, 1, Due.write(1), Due.write(2), Due.set(0));
        Due.lay(house, 2, Due.write(2), Due.write(0), Due.set(0));
        for (int i = 0; i < 3; i++) {
            house.act(i, i, 0);
        }
        house.go(3);
        Due.same("rings", house.count(7), 1);
        Due.same("undone in all", house.told(0, 7) + house.told(1, 7) + house.told(2, 7), 1);
        Due.same("who was", house.told(2, 7), 1);
    }

    /** "While there is": nine readers that all want to write lose eight. */
    private static void ringsWhileThereAre() {
        ActHouse house = new ActHouse();
        house.limit(2, 9);
        Due.lay(house, 0, Due.read(0), Due.write(0), Due.set(0));
        for (int i = 0; i < 9; i++) {
            house.act(0, 2, 0);
        }
        house.go(2);
        int before = house.count(2);
        house.limit(2, 1);
        house.go(1);
        Due.same("rings", house.count(7), 8);
        Due.same("entries more", house.count(2), before + 8);
        for (int i = 0; i < 8; i++) {
            Due.same("kind", house.log(before + i, 0), 4);
            Due.same("the greatest number first", house.log(before + i, 1), 8 - i);
        }
        Due.same("one is left", house.count(5), 1);
        Due.same("it is", house.told(0, 0), 1);
    }

    /** "HELD at a CELL": who is held at a COUNTER waits for nobody, though others wait for him. */
    private static void heldAtACounterWaitsForNobody() {
        ActHouse house = new ActHouse();
        house.floor(0, -5);
        Due.lay(house, 0, Due.hot(0, -5), Due.set(0), Due.write(0), Due.set(0));
        Due.lay(house, 1, Due.write(0), Due.hot(0, -5), Due.set(0));
        house.act(0, 0, 0);
        house.act(1, 0, 0);
        house.go(9);
        Due.same("act 0 is held at the cell", house.told(0, 5), 1);
        Due.same("act 1 at the counter", house.told(1, 5), 1);
        Due.same("rings", house.count(7), 0);
        Due.same("floor(0, -10)", house.floor(0, -10), true);
        house.go(9);
        Due.same("then both are done", house.count(6), 2);
    }

    /** The same, where the one that waits for him holds the CELL that has the COUNTER's number. */
    private static void heldAtACounterIsNotAtTheCellOfItsNumber() {
        ActHouse house = new ActHouse();
        Due.lay(house, 0, Due.write(3), Due.write(1), Due.set(0));
        Due.lay(house, 1, Due.write(1), Due.hot(3, -1), Due.set(0));
        house.act(0, 0, 0);
        house.act(1, 0, 0);
        house.go(6);
        Due.same("act 0 is held at cell 1", house.told(0, 5), 1);
        Due.same("act 1 at counter 3", house.told(1, 5), 1);
        Due.same("rings", house.count(7), 0);
        Due.same("undone", house.told(1, 7), 0);
    }

    private static ActHouse withHighLimits() {
        ActHouse house = new ActHouse();
        for (int kind = 0; kind < 4; kind++) {
            Due.same("limit(" + kind + ", 9)", house.limit(kind, 9), true);
        }
        return house;
    }

    /** "an ACT that waits, by others, for itself": by 23 others, each of which holds one of the CELLS. */
    private static void ringThroughAllCells() {
        ActHouse house = withHighLimits();
        // each is begun a tick later than the one before, and wants the next one's cell once that has it
        for (int i = 0; i < 24; i++) {
            Due.lay(house, 0, Due.write(i), Due.set(0), Due.set(0), Due.set(0), Due.write((i + 1) % 24), Due.set(0));
            house.act(0, i % 4, 0);
            house.go(1);
        }
        Due.same("acts", house.count(1), 24);
        house.go(4);
        Due.same("not yet", house.count(7), 0);
        Due.same("all are begun", house.count(5), 24);
        house.go(1);
        Due.same("rings", house.count(7), 1);
        Due.same("undone is the last", house.told(23, 7), 1);
        for (int i = 0; i < 23; i++) {
            Due.same("not undone: " + i, house.told(i, 7), 0);
        }
    }

    /** "While there is": of all 36 that can be BEGUN at once, 35 are undone in one tick. */
    private static void ringsOfAllThatCanBeBegun() {
        ActHouse house = withHighLimits();
        Due.lay(house, 0, Due.read(0), Due.write(0), Due.set(0));
        for (int i = 0; i < 37; i++) {
            house.act(0, i % 4, 0);
        }
        house.go(2);
        Due.same("36 are begun", house.count(5), 36);
        for (int kind = 0; kind < 4; kind++) {
            house.limit(kind, 0);
        }
        house.go(1);
        Due.same("rings", house.count(7), 35);
        Due.same("one is begun", house.count(5), 1);
        Due.same("it is the first", house.told(0, 0), 1);
        house.go(1);
        Due.same("and can write then", house.holds(0, 0), 2);
    }

    /** "than its CLASS lets (3 at first)" */
    private static void threeOfAClassAtFirst() {
        ActHouse house = new ActHouse();
        Due.lay(house, 0, Due.set(0), Due.set(0));
        for (int i = 0; i < 16; i++) {
            house.act(0, i % 4, 0);
        }
        house.go(1);
        Due.same("three of each of four", house.count(5), 12);
        for (int i = 0; i < 16; i++) {
            Due.same("begun: " + i, house.told(i, 0), i < 12 ? 1 : 0);
        }
    }

    /** "if fewer ACTS of its CLASS are BEGUN than its CLASS lets": none, if it lets 0. */
    private static void limitOfNone() {
        ActHouse house = new ActHouse();
        Due.lay(house, 0, Due.set(0));
        house.limit(1, 0);
        house.act(0, 1, 0);
        house.act(0, 2, 0);
        house.go(50);
        Due.same("it waits", house.told(0, 0), 0);
        Due.same("another class goes on", house.told(1, 0), 3);
        house.limit(1, 1);
        house.go(1);
        Due.same("then it is begun", house.told(0, 0), 1);
    }

    /** The same: nine, if it lets 9 */
    private static void limitOfNine() {
        ActHouse house = new ActHouse();
        Due.lay(house, 0, Due.set(0), Due.set(0));
        house.limit(3, 9);
        for (int i = 0; i < 11; i++) {
            house.act(0, 3, 0);
        }
        house.go(2);
        Due.same("nine", house.count(5), 9);
        house.go(1);
        Due.same("then the two others", house.count(5), 2);
        Due.same("nine are done", house.count(6), 9);
    }

    /** "(3)" comes behind "(1)" and "(2)": the places of DONE, STOPPED and undone ones are free in that tick. */
    private static void placesFreedInThatTick() {
        ActHouse house = new ActHouse();
        house.limit(0, 1);
        house.limit(1, 1);
        Due.lay(house, 0, Due.set(-1), Due.write(20));
        Due.lay(house, 1, Due.set(-1), Due.check());
        house.act(0, 0, 0);
        house.act(0, 0, 0);
        house.act(1, 1, 0);
        house.act(1, 1, 0);
        house.go(3);
        Due.same("the place of a done one", house.told(1, 9), 2);
        Due.same("the place of a stopped one", house.told(3, 9), 2);
        ActHouse ring = new ActHouse();
        Due.lay(ring, 0, Due.read(0), Due.write(0), Due.set(0));
        ring.limit(0, 2);
        ring.act(0, 0, 5);
        ring.act(0, 0, 5);
        ring.act(0, 0, 5);
        ring.go(2);
        Due.same("the third waits", ring.told(2, 0), 0);
        ring.act(0, 0, 4);
        ring.go(1);
        Due.same("the place of an undone one goes by rank", ring.told(3, 9), 2);
        Due.same("the undone one waits", ring.told(1, 0), 0);
        Due.same("undone", ring.told(1, 7), 1);
    }

    /** "and its PROGRAM has STEPS": one without takes no place of its class. */
    private static void withoutStepsNoPlaceIsTaken() {
        ActHouse house = new ActHouse();
        Due.lay(house, 0, Due.set(0), Due.set(0));
        house.limit(0, 1);
        house.act(1, 0, 0);
        house.act(0, 0, 9);
        house.go(1);
        Due.same("without steps", house.told(0, 0), 0);
        Due.same("with steps", house.told(1, 0), 1);
        Due.same("no entry of the first", house.log(0, 1), 1);
    }

    /** "Of ACTS that WAIT, by RANK and number: each is BEGUN" */
    private static void beginByRankAndNumber() {
        ActHouse house = new ActHouse();
        Due.lay(house, 0, Due.set(0), Due.set(0));
        int[] ranks = {9, 0, 5, 0, 9, 5};
        for (int i = 0; i < ranks.length; i++) {
            house.act(0, i % 4, ranks[i]);
        }
        house.go(1);
        int[] want = {1, 3, 2, 5, 0, 4};
        for (int i = 0; i < want.length; i++) {
            Due.same("entry " + i, house.log(i, 1), want[i]);
        }
    }

    /** "If NOW by 4 has the rest 3: all of the LOG is KEPT" */
    private static void keptAtTheRestOfThree() {
        ActHouse house = new ActHouse();
        Due.lay(house, 0, Due.write(0));
        int kept = 0;
        for (int tick = 0; tick < 17; tick++) {
            house.act(0, 0, 0);
            house.go(1);
            kept = tick % 4 == 3 ? house.count(2) : kept;
            Due.same("kept behind tick " + tick, house.count(3), kept);
        }
        Due.same("the last tick's are not", house.count(2) > kept, true);
    }

    /** "(4)" comes behind "(1)" to "(3)": what is DONE or BEGUN in that tick is ANSWERED or KEPT in it. */
    private static void keptWithAllOfThatTick() {
        ActHouse house = new ActHouse();
        Due.lay(house, 0, Due.set(0), Due.set(0), Due.set(0));
        house.act(0, 0, 0);
        house.go(3);
        house.act(0, 0, 0);
        house.go(1);
        Due.same("done in tick 3", house.told(0, 6), 3);
        Due.same("answered in it", house.told(0, 0), 3);
        Due.same("entries", house.count(2), 3);
        Due.same("all kept", house.count(3), 3);
        house.go(3);
        Due.same("done in tick 6", house.told(1, 6), 6);
        Due.same("not answered in it", house.told(1, 0), 2);
        Due.same("counted as done", house.count(6), 2);
        house.go(1);
        Due.same("but in tick 7", house.told(1, 0), 3);
    }

    /** "TICKS are 0 .. 5000", and 4999 by 4 has the rest 3 */
    private static void keptInTheLastTick() {
        ActHouse house = new ActHouse();
        Due.lay(house, 0, Due.set(2), Due.write(0));
        for (int i = 0; i < 24; i++) {
            house.go(200);
        }
        house.go(197);
        house.act(0, 0, 0);
        house.go(2);
        Due.same("not yet", house.told(0, 0), 1);
        Due.same("NOW", house.go(1), 5000);
        Due.same("answered", house.told(0, 0), 3);
        Due.same("in tick 4999", house.told(0, 6), 4999);
        Due.same("kept", house.count(3), 3);
        Due.same("the value", house.value(0, 4999), 2);
        Due.same("before", house.value(0, 4998), 0);
    }

    /** "an entry for .. each WRITE": also of a cell twice; none for one that is HELD, none for other steps. */
    private static void entryOfEachWrite() {
        ActHouse house = new ActHouse();
        Due.lay(house, 0, Due.write(0), Due.write(0), Due.read(0), Due.hot(0, 1), Due.queue(7), Due.sum(0), Due.set(0));
        Due.lay(house, 1, Due.write(0), Due.set(0), Due.set(0), Due.set(0));
        house.act(0, 0, 0);
        house.act(1, 0, 0);
        house.go(3);
        Due.same("two begun, two writes", house.count(2), 4);
        Due.same("both of act 0", house.log(2, 1) + house.log(3, 1), 0);
        house.go(4);
        Due.same("none more", house.count(2), 4);
        house.go(1);
        Due.same("done, and the other's write", house.count(2), 6);
        Due.same("done", house.log(4, 0), 2);
        Due.same("write", house.log(5, 0), 1);
    }

    /** "nothing of it counts", but its entries stay. */
    private static void entriesOfAStoppedOne() {
        ActHouse house = new ActHouse();
        Due.lay(house, 0, Due.set(-1), Due.write(9), Due.check());
        house.act(0, 0, 0);
        house.go(4);
        int[][] want = {{0, 0, -1, 0}, {1, 0, 9, 2}, {3, 0, -1, 3}};
        Due.same("entries", house.count(2), 3);
        for (int i = 0; i < 3; i++) {
            for (int what = 0; what < 4; what++) {
                Due.same("log(" + i + ", " + what + ")", house.log(i, what), want[i][what]);
            }
        }
    }
}
