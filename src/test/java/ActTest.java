/** Promises 4, 5, 9 and 10: act, limit, told and register. */
public final class ActTest {
    public static void main(String[] args) {
        wrongActs();
        eightyActsAtMost();
        limitsAreKept();
        wrongLimits();
        lowerLimitLetsBegunOnesGoOn();
        ranksGoFirst();
        whatIsToldOfAnAct();
        wrongQuestions();
        registerOfBegunActs();
        Due.end("ActTest");
    }

    private static void wrongActs() {
        ActHouse house = new ActHouse();
        for (int far : Due.FAR) {
            Due.same("act program " + far, house.act(far, 0, 0), -1);
            Due.same("act class " + far, house.act(0, far, 0), -1);
            Due.same("act rank " + far, house.act(0, 0, far), -1);
        }
        Due.same("act(8, 0, 0)", house.act(8, 0, 0), -1);
        Due.same("act(0, 4, 0)", house.act(0, 4, 0), -1);
        Due.same("act(0, 0, 10)", house.act(0, 0, 10), -1);
        Due.same("none came", house.count(1), 0);
        Due.same("act(7, 3, 9)", house.act(7, 3, 9), 0);
    }

    private static void eightyActsAtMost() {
        ActHouse house = new ActHouse();
        for (int i = 0; i < 80; i++) {
            Due.same("act " + i, house.act(i % 8, i % 4, i % 10), i);
        }
        Due.same("act 80", house.act(0, 0, 0), -1);
        Due.same("count(1)", house.count(1), 80);
    }

    private static void limitsAreKept() {
        ActHouse house = new ActHouse();
        Due.lay(house, 0, Due.set(1), Due.set(1), Due.set(1));
        for (int i = 0; i < 11; i++) {
            house.act(0, 2, 0);
        }
        house.act(0, 3, 0);
        house.go(1);
        Due.same("three of class 2 and one of class 3", house.count(5), 4);
        Due.same("told(2, 0)", house.told(2, 0), 1);
        Due.same("told(3, 0)", house.told(3, 0), 0);
        Due.same("told(11, 0)", house.told(11, 0), 1);
        Due.same("limit(2, 9)", house.limit(2, 9), true);
        house.go(1);
        Due.same("nine of class 2", house.count(5), 10);
        Due.same("the tenth waits", house.told(9, 0), 0);
        Due.same("limit(2, 0)", house.limit(2, 0), true);
        house.go(20);
        Due.same("the others are done", house.count(6), 10);
        Due.same("no more begin", house.count(4), 2);
    }

    private static void wrongLimits() {
        ActHouse house = new ActHouse();
        Due.lay(house, 0, Due.set(1), Due.set(1));
        for (int far : Due.FAR) {
            Due.same("limit class " + far, house.limit(far, 1), false);
            Due.same("limit many " + far, house.limit(0, far), false);
        }
        Due.same("limit(4, 1)", house.limit(4, 1), false);
        Due.same("limit(0, 10)", house.limit(0, 10), false);
        for (int i = 0; i < 5; i++) {
            house.act(0, 0, 0);
        }
        house.go(1);
        Due.same("three begin still", house.count(5), 3);
    }

    private static void lowerLimitLetsBegunOnesGoOn() {
        ActHouse house = new ActHouse();
        Due.lay(house, 0, Due.set(1), Due.set(1));
        for (int i = 0; i < 4; i++) {
            house.act(0, 0, 0);
        }
        house.go(1);
        Due.same("limit(0, 1)", house.limit(0, 1), true);
        house.go(1);
        Due.same("three are begun", house.count(5), 3);
        house.go(1);
        Due.same("then one", house.count(5), 1);
        Due.same("it is the fourth", house.told(3, 0), 1);
    }

    private static void ranksGoFirst() {
        ActHouse house = new ActHouse();
        Due.lay(house, 0, Due.set(1), Due.write(0));
        Due.lay(house, 1, Due.set(2), Due.write(0));
        house.limit(0, 1);
        house.act(0, 0, 9);
        house.act(1, 0, 4);
        house.act(0, 0, 4);
        house.act(1, 0, 0);
        house.go(12);
        Due.same("done(0)", house.done(0), 3);
        Due.same("done(1)", house.done(1), 1);
        Due.same("done(2)", house.done(2), 2);
        Due.same("done(3)", house.done(3), 0);
        // side by side: of like begun ones the least rank steps first, so it gets the cell
        ActHouse beside = new ActHouse();
        Due.lay(beside, 0, Due.write(0), Due.set(1));
        beside.act(0, 0, 5);
        beside.act(0, 1, 2);
        beside.go(2);
        Due.same("the greater rank is held", beside.told(0, 5), 1);
        Due.same("the lesser holds the cell", beside.holds(1, 0), 2);
    }

    private static void whatIsToldOfAnAct() {
        ActHouse house = new ActHouse();
        Due.lay(house, 6, Due.set(1), Due.set(2), Due.queue(5));
        Due.lay(house, 5, Due.set(-1), Due.check());
        house.go(1);
        house.act(6, 2, 7);
        told(house, "waiting", 0, 0, 6, 2, 7, -1, 0, -1, 0, -1, -1);
        house.go(1);
        told(house, "begun", 0, 1, 6, 2, 7, 0, 0, -1, 0, -1, 1);
        house.go(2);
        told(house, "in the midst", 0, 1, 6, 2, 7, 2, 0, -1, 0, -1, 1);
        house.go(1);
        told(house, "done", 0, 2, 6, 2, 7, -1, 0, 4, 0, -1, 1);
        told(house, "queued, begun at once", 1, 1, 5, 2, 7, 0, 0, -1, 0, 0, 4);
        house.go(2);
        told(house, "stopped", 1, 4, 5, 2, 7, -1, 0, -1, 0, 0, 4);
        house.go(1);
        told(house, "answered", 0, 3, 6, 2, 7, -1, 0, 4, 0, -1, 1);
    }

    private static void told(ActHouse house, String when, int act, int... want) {
        for (int what = 0; what < want.length; what++) {
            Due.same(when + ": told(" + act + ", " + what + ")", house.told(act, what), want[what]);
        }
    }

    private static void wrongQuestions() {
        ActHouse house = new ActHouse();
        house.act(0, 0, 0);
        for (int far : Due.FAR) {
            Due.same("told(0, " + far + ")", house.told(0, far), -1);
            Due.same("told(" + far + ", 0)", house.told(far, 0), -1);
            Due.same("register(" + far + ")", house.register(far), Due.NO_VALUE);
        }
        Due.same("told(0, 10)", house.told(0, 10), -1);
        Due.same("told(1, 0)", house.told(1, 0), -1);
        Due.same("told(80, 0)", house.told(80, 0), -1);
        Due.same("register(1)", house.register(1), Due.NO_VALUE);
    }

    private static void registerOfBegunActs() {
        ActHouse house = new ActHouse();
        Due.lay(house, 0, Due.set(-50), Due.add(49), Due.add(-9), Due.set(0));
        house.act(0, 0, 0);
        Due.same("it waits", house.register(0), Due.NO_VALUE);
        int[] want = {0, -50, -1, -10};
        for (int i = 0; i < want.length; i++) {
            house.go(1);
            Due.same("register after tick " + i, house.register(0), want[i]);
        }
        house.go(1);
        Due.same("it is done", house.register(0), Due.NO_VALUE);
    }
}
