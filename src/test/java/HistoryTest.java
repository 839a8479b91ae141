/** Promises 12 to 15: value, done, log and count. */
public final class HistoryTest {
    public static void main(String[] args) {
        valuesAsOfTicks();
        wrongQuestions();
        rowOfDoneActs();
        entriesAsTheyCome();
        longLog();
        counts();
        Due.end("HistoryTest");
    }

    private static void valuesAsOfTicks() {
        ActHouse house = new ActHouse();
        Due.lay(house, 0, Due.read(0), Due.add(1), Due.write(0), Due.hot(0, 5));
        house.limit(0, 1);
        for (int i = 0; i < 3; i++) {
            house.act(0, 0, 0);
        }
        house.go(15);
        int[] doneTicks = {4, 8, 12};
        for (int i = 0; i < 3; i++) {
            Due.same("done tick of " + i, house.told(i, 6), doneTicks[i]);
            Due.same("cell before " + i, house.value(0, doneTicks[i] - 1), i);
            Due.same("cell as of " + i, house.value(0, doneTicks[i]), i + 1);
            Due.same("counter before " + i, house.value(24, doneTicks[i] - 1), i * 5);
            Due.same("counter as of " + i, house.value(24, doneTicks[i]), i * 5 + 5);
        }
        Due.same("as of 0", house.value(0, 0), 0);
        Due.same("as it is", house.value(0, 15), 3);
        Due.same("another cell", house.value(1, 15), 0);
        Due.same("another counter", house.value(25, 15), 0);
    }

    private static void wrongQuestions() {
        ActHouse house = new ActHouse();
        Due.lay(house, 0, Due.set(1), Due.write(0));
        house.act(0, 0, 0);
        house.go(4);
        for (int far : Due.FAR) {
            Due.same("value(" + far + ", 0)", house.value(far, 0), Due.NO_VALUE);
            Due.same("value(0, " + far + ")", house.value(0, far), Due.NO_VALUE);
            Due.same("done(" + far + ")", house.done(far), -1);
            Due.same("log(" + far + ", 0)", house.log(far, 0), -1);
            Due.same("log(0, " + far + ")", house.log(0, far), -1);
            Due.same("count(" + far + ")", house.count(far), -1);
        }
        Due.same("value(32, 0)", house.value(32, 0), Due.NO_VALUE);
        Due.same("value(31, 4)", house.value(31, 4), 0);
        Due.same("value(0, 5)", house.value(0, 5), Due.NO_VALUE);
        Due.same("done(1)", house.done(1), -1);
        Due.same("log(3, 0)", house.log(3, 0), -1);
        Due.same("log(2, 4)", house.log(2, 4), -1);
        Due.same("count(9)", house.count(9), -1);
    }

    private static void rowOfDoneActs() {
        ActHouse house = new ActHouse();
        Due.lay(house, 0, Due.set(0), Due.set(0), Due.set(0));
        Due.lay(house, 1, Due.set(-1), Due.check());
        Due.lay(house, 2, Due.set(0));
        house.act(0, 0, 0);
        house.act(1, 0, 0);
        house.act(2, 1, 5);
        house.act(2, 2, 1);
        house.go(4);
        Due.same("done(0)", house.done(0), 3);
        Due.same("done(1)", house.done(1), 2);
        Due.same("done(2)", house.done(2), 0);
        Due.same("done(3)", house.done(3), -1);
    }

    private static void entriesAsTheyCome() {
        ActHouse house = new ActHouse();
        Due.lay(house, 0, Due.write(23), Due.write(23), Due.read(3));
        Due.lay(house, 1, Due.set(-1), Due.write(0), Due.check());
        house.act(0, 0, 2);
        house.act(1, 0, 1);
        house.go(4);
        int[][] want = {{0, 1, -1, 0}, {0, 0, -1, 0}, {1, 0, 23, 1}, {1, 1, 0, 2}, {1, 0, 23, 2}, {3, 1, -1, 3},
            {2, 0, -1, 3}};
        Due.same("entries", house.count(2), want.length);
        for (int i = 0; i < want.length; i++) {
            for (int what = 0; what < 4; what++) {
                Due.same("log(" + i + ", " + what + ")", house.log(i, what), want[i][what]);
            }
        }
        late();
    }

    /** The last tick, the last act and the last cell, in one entry. */
    private static void late() {
        ActHouse house = new ActHouse();
        for (int i = 0; i < 79; i++) {
            house.act(7, 0, 0);
        }
        Due.lay(house, 0, Due.write(23), Due.set(0));
        house.act(0, 0, 0);
        house.limit(0, 0);
        for (int i = 0; i < 24; i++) {
            house.go(200);
        }
        house.go(198);
        house.limit(0, 9);
        house.go(2);
        Due.same("kind", house.log(1, 0), 1);
        Due.same("act", house.log(1, 1), 79);
        Due.same("cell", house.log(1, 2), 23);
        Due.same("tick", house.log(1, 3), 4999);
    }

    /** Two entries a tick, for 400 ticks: each of them is told right. */
    private static void longLog() {
        ActHouse house = new ActHouse();
        Due.lay(house, 0, Due.read(0), Due.write(0), Due.set(0));
        house.limit(0, 2);
        house.act(0, 0, 9);
        house.act(0, 0, 0);
        // act 1 reads, wants to write, is undone and begun again, in each second tick
        house.go(200);
        house.go(200);
        Due.same("entries", house.count(2), 2 + 199 * 2);
        for (int i = 2; i < 400; i += 57) {
            Due.same("kind of " + i, house.log(i, 0), i % 2 == 0 ? 4 : 0);
            Due.same("act of " + i, house.log(i, 1), 1);
            Due.same("cell of " + i, house.log(i, 2), -1);
            Due.same("tick of " + i, house.log(i, 3), i / 2 * 2);
        }
        Due.same("the first", house.log(0, 1), 1);
        Due.same("the last", house.log(399, 3), 398);
        Due.same("none behind it", house.log(400, 0), -1);
    }

    private static void counts() {
        ActHouse house = new ActHouse();
        Due.lay(house, 0, Due.set(1), Due.write(0));
        Due.lay(house, 1, Due.set(-1), Due.check());
        Due.lay(house, 2, Due.set(1), Due.set(1), Due.set(1), Due.set(1), Due.set(1));
        house.act(0, 0, 0);
        house.act(1, 1, 0);
        house.act(2, 2, 0);
        house.act(3, 3, 0);
        house.go(3);
        counted(house, "before the keeping", 3, 4, 6, 0, 1, 1, 1, 0, 0);
        house.go(1);
        counted(house, "behind it", 4, 4, 6, 6, 1, 1, 1, 0, 0);
        house.fall(0);
        counted(house, "behind a fall", 4, 4, 6, 6, 2, 0, 1, 0, 1);
    }

    private static void counted(ActHouse house, String when, int... want) {
        for (int what = 0; what < want.length; what++) {
            Due.same(when + ": count(" + what + ")", house.count(what), want[what]);
        }
    }
}
