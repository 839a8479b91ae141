/** Promise 6 and the hot counters: floor, and what acts are to give. */
public final class CounterTest {
    public static void main(String[] args) {
        wrongFloors();
        floorLooksAtWhatIsToCome();
        manyTakeTheirPartsAtOnce();
        whatIsAboveZeroToComeDoesNotHelp();
        heldAtACounterIsNoRing();
        Due.end("CounterTest");
    }

    private static void wrongFloors() {
        ActHouse house = new ActHouse();
        for (int far : Due.FAR) {
            Due.same("floor(" + far + ", 0)", house.floor(far, 0), false);
        }
        Due.same("floor(8, 0)", house.floor(8, 0), false);
        Due.same("floor(0, 1)", house.floor(0, 1), false);
        Due.same("floor(0, -1001)", house.floor(0, -1001), false);
        Due.same("floor(0, MIN)", house.floor(0, Integer.MIN_VALUE), false);
        Due.same("floor(0, MAX)", house.floor(0, Integer.MAX_VALUE), false);
        Due.same("floor(7, -1000)", house.floor(7, -1000), true);
        Due.same("floor(7, 0)", house.floor(7, 0), true);
    }

    private static void floorLooksAtWhatIsToCome() {
        ActHouse house = new ActHouse();
        Due.same("floor(2, -10)", house.floor(2, -10), true);
        Due.lay(house, 0, Due.hot(2, -4), Due.hot(2, 20), Due.set(0), Due.set(0));
        house.act(0, 0, 0);
        house.go(3);
        Due.same("the value is 0 yet", house.value(26, 3), 0);
        Due.same("-4 is to come: -3 can't be", house.floor(2, -3), false);
        Due.same("-4 can", house.floor(2, -4), true);
        house.go(2);
        Due.same("all came", house.value(26, 5), 16);
        Due.same("now 0 can be", house.floor(2, 0), true);
        Due.lay(house, 1, Due.hot(2, -16), Due.hot(2, -1));
        house.act(1, 0, 0);
        house.go(3);
        Due.same("to the floor itself", house.told(1, 4), 1);
        Due.same("not below", house.told(1, 5), 1);
    }

    private static void manyTakeTheirPartsAtOnce() {
        ActHouse house = new ActHouse();
        house.floor(0, -10);
        Due.lay(house, 0, Due.hot(0, -5), Due.set(0), Due.set(0), Due.set(0));
        for (int i = 0; i < 3; i++) {
            house.act(0, 0, 0);
        }
        house.go(2);
        Due.same("the first has its part", house.told(0, 5), 0);
        Due.same("the second has its part", house.told(1, 5), 0);
        Due.same("the third is held", house.told(2, 5), 1);
        house.go(10);
        Due.same("it stays so when they are done", house.told(2, 5), 1);
        Due.same("value", house.value(24, 12), -10);
        Due.same("floor(0, -15)", house.floor(0, -15), true);
        house.go(4);
        Due.same("then it is done", house.value(24, 16), -15);
    }

    private static void whatIsAboveZeroToComeDoesNotHelp() {
        ActHouse house = new ActHouse();
        Due.lay(house, 0, Due.hot(0, 9), Due.hot(0, -1), Due.set(0));
        house.act(0, 0, 0);
        house.go(6);
        Due.same("its own 9 isn't there yet", house.told(0, 5), 1);
        Due.lay(house, 1, Due.hot(0, 1), Due.set(0));
        house.act(1, 0, 9);
        house.go(3);
        Due.same("nor is another's 1", house.told(0, 5), 1);
        house.go(1);
        Due.same("once that is done it can be", house.told(0, 5), 0);
        Due.lay(house, 2, Due.hot(1, 0));
        house.act(2, 0, 0);
        house.go(2);
        Due.same("0 can always be", house.told(2, 6), 11);
        Due.same("value", house.value(24, 12), 9);
    }

    private static void heldAtACounterIsNoRing() {
        ActHouse house = new ActHouse();
        Due.lay(house, 0, Due.read(0), Due.hot(0, -1));
        Due.lay(house, 1, Due.set(3), Due.write(0));
        house.act(0, 0, 0);
        house.act(1, 0, 0);
        house.go(9);
        Due.same("one is held at the counter", house.told(0, 5), 1);
        Due.same("one at the cell", house.told(1, 5), 1);
        Due.same("no ring", house.count(7), 0);
        Due.same("none undone", house.told(0, 7) + house.told(1, 7), 0);
    }
}
