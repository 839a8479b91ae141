/**
 * The edges that promises 1 to 15 name: a sentence of them stands above each test. What is refused is tried in
 * RefusalTest too, at every place of a run; here stand the last numbers that can be, and the first that can't.
 */
public final class CallEdgesTest {
    public static void main(String[] args) {
        newObject();
        programWithoutSteps();
        programsFirstAndLast();
        stepHowMany();
        stepBehindProgram();
        actFirstAndLast();
        limitFirstAndLast();
        limitBelowThoseBegun();
        floorFirstAndLast();
        floorAtTheValue();
        floorAtWhatIsToCome();
        goNone();
        goMost();
        goUpToTheLastTick();
        goInTheLastTick();
        fallAnswersDoneOnesAlone();
        toldOfOneThatWaits();
        toldOfOneThatIsBegun();
        toldOfOneThatIsDone();
        toldOfOneThatIsAnswered();
        toldOfOneThatIsStopped();
        toldOfOneThatIsUndone();
        toldHeldInTheLatestTickAlone();
        toldOthers();
        registerOfOthers();
        holdsFirstAndLast();
        valueFirstAndLast();
        valueOfTheTickItself();
        doneFirstAndLast();
        logFirstAndLast();
        logOthers();
        countOthers();
        lastOfFiveHundredAndTwelveCalls();
        Due.end("CallEdgesTest");
    }

    private static void told(ActHouse house, String when, int act, int... want) {
        for (int what = 0; what < want.length; what++) {
            Due.same(when + ": told(" + act + ", " + what + ")", house.told(act, what), want[what]);
        }
    }

    /** "No PROGRAMS, no ACTS; NOW is 0." */
    private static void newObject() {
        ActHouse house = new ActHouse();
        for (int what = 0; what <= 8; what++) {
            Due.same("count(" + what + ")", house.count(what), 0);
        }
        Due.same("no act 0", house.told(0, 0), -1);
        Due.same("no register", house.register(0), Due.NO_VALUE);
        Due.same("no holds", house.holds(0, 0), -1);
        Due.same("no done", house.done(0), -1);
        Due.same("no entry", house.log(0, 0), -1);
    }

    /** "A PROGRAM has no STEPS any more .. true": also one that had none. */
    private static void programWithoutSteps() {
        ActHouse house = new ActHouse();
        Due.same("it had none", house.program(3), true);
        Due.same("still", house.program(3), true);
        Due.same("the first step", house.step(3, 0), 1);
        Due.same("it had one", house.program(3), true);
        Due.same("the first step again", house.step(3, 0), 1);
    }

    /** "false if there is none such" */
    private static void programsFirstAndLast() {
        ActHouse house = new ActHouse();
        for (int program = 0; program < 8; program++) {
            house.step(program, Due.set(1));
            house.step(program, Due.set(1));
        }
        Due.same("-1", house.program(-1), false);
        Due.same("8", house.program(8), false);
        Due.same("0", house.program(0), true);
        Due.same("7", house.program(7), true);
        for (int program = 0; program < 8; program++) {
            int due = program == 0 || program == 7 ? 1 : 3;
            Due.same("steps of " + program, house.step(program, Due.set(1)), due);
        }
    }

    /** "how many it has; NONE if .. it has 12" */
    private static void stepHowMany() {
        ActHouse house = new ActHouse();
        for (int program = 0; program < 8; program++) {
            for (int i = 1; i <= 12; i++) {
                Due.same("step " + i, house.step(program, Due.set(i)), i);
            }
            Due.same("step 13 of " + program, house.step(program, Due.set(0)), -1);
        }
        Due.same("step(-1)", house.step(-1, 0), -1);
        Due.same("step(8)", house.step(8, 0), -1);
        for (int program = 0; program < 8; program++) {
            house.act(program, program % 4, 0);
        }
        house.go(12);
        for (int program = 0; program < 8; program++) {
            Due.same("all but the last are done: " + program, house.register(program), 11);
        }
        house.go(1);
        Due.same("all are done", house.count(6), 8);
    }

    /** "A PROGRAM has no STEPS any more": the next step is the first, and the old ones don't come back. */
    private static void stepBehindProgram() {
        ActHouse house = new ActHouse();
        Due.lay(house, 0, Due.set(1), Due.set(2), Due.set(3));
        Due.lay(house, 0, Due.set(9));
        house.act(0, 0, 0);
        house.go(2);
        Due.same("one step alone", house.told(0, 6), 1);
    }

    /** "its number; NONE if there is no such PROGRAM, CLASS, RANK, or 80 came" */
    private static void actFirstAndLast() {
        ActHouse house = new ActHouse();
        Due.same("the least", house.act(0, 0, 0), 0);
        Due.same("the greatest", house.act(7, 3, 9), 1);
        Due.same("program 8", house.act(8, 3, 9), -1);
        Due.same("class 4", house.act(7, 4, 9), -1);
        Due.same("rank 10", house.act(7, 3, 10), -1);
        for (int number = 2; number < 80; number++) {
            Due.same("number " + number, house.act(7, 3, 9), number);
        }
        Due.same("80 came", house.act(7, 3, 9), -1);
        told(house, "the last", 79, 0, 7, 3, 9, -1, 0, -1, 0, -1, -1);
        Due.same("none behind it", house.told(80, 0), -1);
    }

    /** "How many of a CLASS can be BEGUN (0 .. 9): true; false if there is none such, or it can't be." */
    private static void limitFirstAndLast() {
        ActHouse house = new ActHouse();
        for (int kind = 0; kind < 4; kind++) {
            Due.same("0 of " + kind, house.limit(kind, 0), true);
            Due.same("9 of " + kind, house.limit(kind, 9), true);
            Due.same("10 of " + kind, house.limit(kind, 10), false);
            Due.same("-1 of " + kind, house.limit(kind, -1), false);
        }
        Due.same("class -1", house.limit(-1, 0), false);
        Due.same("class 4", house.limit(4, 0), false);
        Due.lay(house, 0, Due.set(0), Due.set(0));
        for (int i = 0; i < 44; i++) {
            house.act(0, i % 4, 0);
        }
        house.go(1);
        Due.same("nine of each still", house.count(5), 36);
    }

    /** "How many of a CLASS can be BEGUN": those that are go on, and none begins before they are fewer. */
    private static void limitBelowThoseBegun() {
        ActHouse house = new ActHouse();
        Due.lay(house, 0, Due.set(0), Due.set(0), Due.set(0));
        Due.lay(house, 1, Due.set(0), Due.set(0));
        house.act(0, 0, 0);
        house.act(1, 0, 0);
        house.act(1, 0, 0);
        house.act(1, 0, 0);
        house.go(1);
        Due.same("limit(0, 1)", house.limit(0, 1), true);
        house.go(1);
        Due.same("three are begun", house.count(5), 3);
        house.go(1);
        Due.same("one is, so none begins", house.count(5), 1);
        Due.same("the fourth waits", house.told(3, 0), 0);
        house.go(1);
        Due.same("none was, so one begins", house.told(3, 9), 3);
    }

    /** "A COUNTER's FLOOR (-1000 .. 0): true; false if there is none such, it can't be" */
    private static void floorFirstAndLast() {
        ActHouse house = new ActHouse();
        for (int counter = 0; counter < 8; counter++) {
            Due.same("0", house.floor(counter, 0), true);
            Due.same("1", house.floor(counter, 1), false);
            Due.same("-1000", house.floor(counter, -1000), true);
            Due.same("-1001", house.floor(counter, -1001), false);
        }
        Due.same("counter -1", house.floor(-1, -1), false);
        Due.same("counter 8", house.floor(8, -1), false);
    }

    /** "or its value .. is below it" */
    private static void floorAtTheValue() {
        ActHouse house = new ActHouse();
        house.floor(5, -9);
        Due.lay(house, 0, Due.hot(5, -9));
        house.act(0, 0, 0);
        house.go(2);
        Due.same("the value", house.value(29, 2), -9);
        Due.same("-8", house.floor(5, -8), false);
        Due.same("0", house.floor(5, 0), false);
        Due.same("-9", house.floor(5, -9), true);
        Due.same("-10", house.floor(5, -10), true);
        Due.same("another counter", house.floor(4, 0), true);
    }

    /** "(with what is below 0 to come)": without what is above 0 to come */
    private static void floorAtWhatIsToCome() {
        ActHouse house = new ActHouse();
        house.floor(5, -9);
        Due.lay(house, 0, Due.hot(5, -4), Due.hot(5, 30), Due.hot(5, -5), Due.set(0), Due.set(0));
        house.act(0, 0, 0);
        house.go(4);
        Due.same("the value", house.value(29, 4), 0);
        Due.same("-8", house.floor(5, -8), false);
        Due.same("-9", house.floor(5, -9), true);
        house.go(2);
        Due.same("it came", house.value(29, 6), 21);
        Due.same("0", house.floor(5, 0), true);
    }

    /** "n TICKS go (0 ..": none */
    private static void goNone() {
        ActHouse house = new ActHouse();
        Due.lay(house, 0, Due.set(0));
        house.act(0, 0, 0);
        Due.same("go(0)", house.go(0), 0);
        Due.same("it waits", house.told(0, 0), 0);
        house.go(1);
        Due.same("go(0) again", house.go(0), 1);
        Due.same("it is begun", house.told(0, 4), 0);
        Due.same("go(-1)", house.go(-1), -1);
        Due.same("NOW", house.count(0), 1);
    }

    /** "n TICKS go (.. 200 ..): NOW; NONE for another n." */
    private static void goMost() {
        ActHouse house = new ActHouse();
        Due.same("go(201)", house.go(201), -1);
        Due.same("NOW", house.count(0), 0);
        Due.same("go(200)", house.go(200), 200);
        Due.same("go(199)", house.go(199), 399);
        Due.same("NOW", house.count(0), 399);
    }

    /** "up to 5000" */
    private static void goUpToTheLastTick() {
        ActHouse house = new ActHouse();
        for (int i = 1; i <= 24; i++) {
            Due.same("go(200)", house.go(200), i * 200);
        }
        Due.same("go(199)", house.go(199), 4999);
        Due.same("value of 5000 is not yet", house.value(0, 5000), Due.NO_VALUE);
        Due.same("go(2)", house.go(2), 5000);
        Due.same("value of 5000", house.value(0, 5000), 0);
        Due.same("value of 5001", house.value(0, 5001), Due.NO_VALUE);
    }

    /** "up to 5000": no more go then, and n is refused as ever. */
    private static void goInTheLastTick() {
        ActHouse house = new ActHouse();
        for (int i = 0; i < 25; i++) {
            house.go(200);
        }
        Due.lay(house, 0, Due.set(0));
        Due.same("an act can come", house.act(0, 0, 0), 0);
        int[] n = {0, 1, 200, 201, -1};
        int[] due = {5000, 5000, 5000, -1, -1};
        for (int i = 0; i < n.length; i++) {
            Due.same("go(" + n[i] + ")", house.go(n[i]), due[i]);
            Due.same("NOW", house.count(0), 5000);
            Due.same("it waits", house.told(0, 0), 0);
        }
    }

    /** "how many ACTS that were DONE are undone": not those that were BEGUN, STOPPED or ANSWERED. */
    private static void fallAnswersDoneOnesAlone() {
        ActHouse house = new ActHouse();
        Due.lay(house, 0, Due.set(-1));
        Due.lay(house, 1, Due.set(-1), Due.check());
        Due.lay(house, 2, Due.set(0), Due.set(0), Due.set(0), Due.set(0), Due.set(0));
        house.act(0, 0, 0);
        house.go(4);
        Due.same("answered", house.told(0, 0), 3);
        for (int program = 0; program < 3; program++) {
            house.act(program, program, 0);
        }
        house.act(0, 3, 0);
        house.go(3);
        int[] states = {3, 2, 4, 1, 2};
        for (int act = 0; act < 5; act++) {
            Due.same("how " + act + " is", house.told(act, 0), states[act]);
        }
        Due.same("fall(0)", house.fall(0), 2);
        int[] behind = {3, 0, 0, 0, 0};
        int[] undone = {0, 1, 0, 1, 1};
        for (int act = 0; act < 5; act++) {
            Due.same("how " + act + " is behind it", house.told(act, 0), behind[act]);
            Due.same("how often undone: " + act, house.told(act, 7), undone[act]);
        }
    }

    /** "0 how it is (0 .. 4) .." of one that WAITS */
    private static void toldOfOneThatWaits() {
        ActHouse house = new ActHouse();
        house.act(7, 3, 9);
        told(house, "waits", 0, 0, 7, 3, 9, -1, 0, -1, 0, -1, -1);
        house.go(5);
        told(house, "waits still", 0, 0, 7, 3, 9, -1, 0, -1, 0, -1, -1);
    }

    /** "4 the STEP at which it is (of one that is BEGUN; NONE)", from 0 on */
    private static void toldOfOneThatIsBegun() {
        ActHouse house = new ActHouse();
        Due.lay(house, 0, Due.set(0), Due.set(0));
        house.act(0, 0, 0);
        house.go(1);
        told(house, "begun in tick 0", 0, 1, 0, 0, 0, 0, 0, -1, 0, -1, 0);
        house.go(1);
        told(house, "at its last step", 0, 1, 0, 0, 0, 1, 0, -1, 0, -1, 0);
    }

    /** "6 the TICK in which it was DONE (NONE)" */
    private static void toldOfOneThatIsDone() {
        ActHouse house = new ActHouse();
        Due.lay(house, 0, Due.set(0));
        house.act(0, 0, 0);
        house.go(2);
        told(house, "done", 0, 2, 0, 0, 0, -1, 0, 1, 0, -1, 0);
    }

    /** "0 how it is (0 .. 4)": 3 */
    private static void toldOfOneThatIsAnswered() {
        ActHouse house = new ActHouse();
        Due.lay(house, 0, Due.set(0), Due.queue(7));
        house.act(0, 1, 2);
        house.go(4);
        told(house, "answered", 0, 3, 0, 1, 2, -1, 0, 2, 0, -1, 0);
        told(house, "queued by act 0", 1, 0, 7, 1, 2, -1, 0, -1, 0, 0, -1);
    }

    /** "0 how it is (0 .. 4)": 4 */
    private static void toldOfOneThatIsStopped() {
        ActHouse house = new ActHouse();
        Due.lay(house, 0, Due.set(-1), Due.check());
        house.go(3);
        house.act(0, 1, 2);
        house.go(3);
        told(house, "stopped", 0, 4, 0, 1, 2, -1, 0, -1, 0, -1, 3);
    }

    /** "7 how often it was undone and WAITED again (in RINGS ..)" and "9 the TICK in which it was BEGUN last" */
    private static void toldOfOneThatIsUndone() {
        ActHouse house = new ActHouse();
        Due.lay(house, 0, Due.read(0), Due.write(0), Due.set(0));
        house.limit(0, 2);
        house.act(0, 0, 9);
        house.act(0, 0, 0);
        // act 1 steps first and is undone in each second tick, so act 0 never can write
        for (int i = 1; i <= 5; i++) {
            house.go(i == 1 ? 3 : 2);
            Due.same("undone", house.told(1, 7), i);
            Due.same("begun last", house.told(1, 9), i * 2);
            Due.same("rings", house.count(7), i);
        }
        Due.same("act 0 never", house.told(0, 7), 0);
        Due.same("begun once", house.told(0, 9), 0);
        house.limit(0, 1);
        house.go(2);
        told(house, "undone, and it waits", 1, 0, 0, 0, 0, -1, 0, -1, 6, -1, 10);
    }

    /** "5 whether it was HELD in the latest TICK (of one that is BEGUN)" */
    private static void toldHeldInTheLatestTickAlone() {
        ActHouse house = new ActHouse();
        Due.lay(house, 0, Due.write(0), Due.set(0), Due.set(0));
        Due.lay(house, 1, Due.read(0), Due.set(0), Due.set(0));
        house.act(0, 0, 0);
        house.act(1, 0, 0);
        int[] held = {0, 1, 1, 0, 0};
        for (int i = 0; i < held.length; i++) {
            house.go(1);
            Due.same("held in tick " + i, house.told(1, 5), held[i]);
            Due.same("go(0) is no tick", house.go(0), i + 1);
            Due.same("held in tick " + i + " still", house.told(1, 5), held[i]);
            Due.same("act 0 never", house.told(0, 5), 0);
        }
        house.act(0, 0, 0);
        house.act(1, 0, 0);
        house.go(2);
        Due.same("held", house.told(3, 5), 1);
        house.fall(0);
        Due.same("not begun any more", house.told(3, 5), 0);
        house.go(1);
        Due.same("begun again, in a tick in which it was not held", house.told(3, 5), 0);
    }

    /** "NONE for others, or if there is none such" */
    private static void toldOthers() {
        ActHouse house = new ActHouse();
        Due.same("no act yet", house.told(0, 0), -1);
        house.act(7, 3, 9);
        Due.same("what 10", house.told(0, 10), -1);
        Due.same("what -1", house.told(0, -1), -1);
        Due.same("act 1", house.told(1, 1), -1);
        Due.same("act -1", house.told(-1, 1), -1);
        Due.same("act 0", house.told(0, 1), 7);
    }

    /** "The REGISTER of an ACT that is BEGUN; -2147483648 if there is none such." */
    private static void registerOfOthers() {
        ActHouse house = new ActHouse();
        Due.lay(house, 0, Due.set(-50), Due.set(7));
        Due.lay(house, 1, Due.set(-50), Due.check());
        house.act(0, 0, 0);
        house.act(1, 0, 0);
        Due.same("waits", house.register(0), Due.NO_VALUE);
        house.go(1);
        Due.same("begun", house.register(0), 0);
        house.go(1);
        Due.same("behind a step", house.register(0), -50);
        house.go(1);
        Due.same("done", house.register(0), Due.NO_VALUE);
        Due.same("stopped", house.register(1), Due.NO_VALUE);
        house.go(1);
        Due.same("answered", house.register(0), Due.NO_VALUE);
        Due.same("act 2", house.register(2), Due.NO_VALUE);
        Due.same("act -1", house.register(-1), Due.NO_VALUE);
    }

    /** "0 not, 1 to read, 2 to write; NONE if there is none such" */
    private static void holdsFirstAndLast() {
        ActHouse house = new ActHouse();
        Due.lay(house, 0, Due.read(0), Due.write(23), Due.set(0));
        Due.same("no act yet", house.holds(0, 0), -1);
        house.act(0, 0, 0);
        Due.same("waits", house.holds(0, 0), 0);
        house.go(3);
        for (int cell = 0; cell < 24; cell++) {
            Due.same("cell " + cell, house.holds(0, cell), cell == 0 ? 1 : cell == 23 ? 2 : 0);
        }
        Due.same("cell -1", house.holds(0, -1), -1);
        Due.same("cell 24", house.holds(0, 24), -1);
        Due.same("act 1", house.holds(1, 0), -1);
        Due.same("act -1", house.holds(-1, 0), -1);
        house.go(1);
        Due.same("done", house.holds(0, 23), 0);
        Due.same("cell 24 of one that is done", house.holds(0, 24), -1);
    }

    /** "a CELL (0 .. 23) or COUNTER (24 .. 31) as of a TICK (0 .. NOW ..); -2147483648 if there is none such" */
    private static void valueFirstAndLast() {
        ActHouse house = new ActHouse();
        Due.lay(house, 0, Due.set(4), Due.write(0), Due.write(23), Due.hot(0, 5), Due.hot(7, 6));
        house.act(0, 0, 0);
        house.go(7);
        int[] places = {-1, 0, 1, 22, 23, 24, 25, 30, 31, 32};
        int[] due = {Due.NO_VALUE, 4, 0, 0, 4, 5, 0, 0, 6, Due.NO_VALUE};
        for (int i = 0; i < places.length; i++) {
            Due.same("value(" + places[i] + ", 7)", house.value(places[i], 7), due[i]);
            Due.same("value(" + places[i] + ", 6)", house.value(places[i], 6), due[i]);
            Due.same("value(" + places[i] + ", 8)", house.value(places[i], 8), Due.NO_VALUE);
            Due.same("value(" + places[i] + ", -1)", house.value(places[i], -1), Due.NO_VALUE);
        }
        Due.same("as of tick 0", house.value(0, 0), 0);
    }

    /** "by the ACTS that were DONE in TICKS up to t": t itself too */
    private static void valueOfTheTickItself() {
        ActHouse house = new ActHouse();
        Due.lay(house, 0, Due.write(1), Due.hot(0, 7), Due.set(3), Due.write(0));
        house.act(0, 0, 0);
        house.go(5);
        Due.same("done in tick 4", house.told(0, 6), 4);
        Due.same("cell as of 3", house.value(0, 3), 0);
        Due.same("cell as of 4", house.value(0, 4), 3);
        Due.same("cell as it is", house.value(0, 5), 3);
        Due.same("counter as of 3", house.value(24, 3), 0);
        Due.same("counter as of 4", house.value(24, 4), 7);
        Due.same("counter as it is", house.value(24, 5), 7);
    }

    /** "The i-th ACT that was DONE (from 0 on ..); NONE if there is none such." */
    private static void doneFirstAndLast() {
        ActHouse house = new ActHouse();
        house.limit(0, 9);
        Due.lay(house, 0, Due.set(0));
        for (int i = 0; i < 80; i++) {
            house.act(0, 0, 9 - i / 8);
        }
        Due.same("none yet", house.done(0), -1);
        house.go(11);
        for (int i = 0; i < 80; i++) {
            Due.same("done(" + i + ")", house.done(i), (9 - i / 8) * 8 + i % 8);
        }
        Due.same("done(80)", house.done(80), -1);
        Due.same("done(-1)", house.done(-1), -1);
        Due.same("count(6)", house.count(6), 80);
    }

    /** "Of entry i of the LOG (from 0 on) .. NONE .. if there is none such" */
    private static void logFirstAndLast() {
        ActHouse house = new ActHouse();
        Due.lay(house, 0, Due.write(0), Due.write(23));
        house.act(0, 0, 0);
        house.go(4);
        int[][] want = {{0, 0, -1, 0}, {1, 0, 0, 1}, {1, 0, 23, 2}, {2, 0, -1, 2}};
        for (int i = 0; i < want.length; i++) {
            for (int what = 0; what < 4; what++) {
                Due.same("log(" + i + ", " + what + ")", house.log(i, what), want[i][what]);
            }
        }
        for (int what = 0; what < 4; what++) {
            Due.same("entry -1", house.log(-1, what), -1);
            Due.same("entry 4", house.log(4, what), -1);
        }
    }

    /** "NONE for others" */
    private static void logOthers() {
        ActHouse house = new ActHouse();
        Due.lay(house, 0, Due.write(5));
        house.act(0, 0, 0);
        house.go(4);
        for (int i = 0; i < 3; i++) {
            Due.same("what 4 of " + i, house.log(i, 4), -1);
            Due.same("what -1 of " + i, house.log(i, -1), -1);
        }
    }

    /** "NONE for others." */
    private static void countOthers() {
        ActHouse house = new ActHouse();
        house.act(0, 0, 0);
        house.go(3);
        Due.same("count(-1)", house.count(-1), -1);
        Due.same("count(9)", house.count(9), -1);
        int[] want = {3, 1, 0, 0, 1, 0, 0, 0, 0};
        for (int what = 0; what < want.length; what++) {
            Due.same("count(" + what + ")", house.count(what), want[what]);
        }
    }

    /** "An object is used for at most 512 calls after it has been made": the last of them answers as the first. */
    private static void lastOfFiveHundredAndTwelveCalls() {
        ActHouse house = new ActHouse();
        house.step(0, Due.read(0));
        house.step(0, Due.add(1));
        house.step(0, Due.write(0));
        house.step(0, Due.queue(0));
        house.act(0, 0, 0);
        for (int call = 6; call < 511; call++) {
            int now = Math.min((call - 5) * 200, 5000);
            Due.same("call " + call, house.go(200), now);
        }
        Due.same("call 511: 80 acts, each done", house.count(6), 80);
        Due.same("call 512: each added one", house.value(0, 5000), 80);
    }
}
