/** Promise 1: a new object. */
public final class NewHouseTest {
    public static void main(String[] args) {
        nothingIsThere();
        objectsAreApart();
        Due.same("NONE", ActHouse.NONE, -1);
        Due.end("NewHouseTest");
    }

    private static void nothingIsThere() {
        ActHouse house = new ActHouse();
        for (int what = 0; what <= 8; what++) {
            Due.same("count(" + what + ")", house.count(what), 0);
        }
        for (int place = 0; place < 32; place++) {
            Due.same("value(" + place + ", 0)", house.value(place, 0), 0);
        }
        Due.same("told(0, 0)", house.told(0, 0), -1);
        Due.same("register(0)", house.register(0), Due.NO_VALUE);
        Due.same("holds(0, 0)", house.holds(0, 0), -1);
        Due.same("done(0)", house.done(0), -1);
        Due.same("log(0, 0)", house.log(0, 0), -1);
        Due.same("go(0)", house.go(0), 0);
        Due.same("fall(1)", house.fall(1), -1);
        for (int program = 0; program < 8; program++) {
            Due.same("first step of " + program, house.step(program, 0), 1);
        }
        for (int counter = 0; counter < 8; counter++) {
            Due.same("first floor of " + counter + " lets 0", house.floor(counter, 0), true);
        }
    }

    private static void objectsAreApart() {
        ActHouse one = new ActHouse();
        ActHouse other = new ActHouse();
        Due.lay(one, 0, Due.set(7), Due.write(0));
        Due.same("act", one.act(0, 0, 0), 0);
        Due.same("go", one.go(4), 4);
        Due.same("value here", one.value(0, 4), 7);
        Due.same("NOW there", other.count(0), 0);
        Due.same("acts there", other.count(1), 0);
        Due.same("value there", other.value(0, 0), 0);
        Due.same("steps there", other.step(0, 0), 1);
    }
}
