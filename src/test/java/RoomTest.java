import java.lang.management.ManagementFactory;
import java.util.Random;

/** No call throws, whatever its arguments, and the dearest runs make little. */
public final class RoomTest {
    /** A quarter of the room of 7.3 million elements, at four bytes each. */
    private static final long MOST_BYTES = 7_300_000L;
    private static final int[] ODD = {Integer.MIN_VALUE, Integer.MIN_VALUE + 1, -10001, -1, 0, 1, 2, 3, 7, 8, 9, 10, 11,
        12, 23, 24, 31, 32, 79, 80, 199, 200, 201, 4999, 5000, 5001, 10050, 30000, 39999, 60000, 70000, 80099, 89999,
        90000, Integer.MAX_VALUE - 1, Integer.MAX_VALUE};

    public static void main(String[] args) {
        for (int seed = 0; seed < 300; seed++) {
            oddCalls(new Random(seed));
        }
        dearestRun();
        manyHouses();
        Due.end("RoomTest");
    }

    private static int odd(Random random) {
        return ODD[random.nextInt(ODD.length)];
    }

    /** More calls than are promised, for no call may throw in any state; a throw ends the test with exit code 1. */
    private static void oddCalls(Random random) {
        ActHouse house = new ActHouse();
        for (int call = 0; call < 3000; call++) {
            switch (random.nextInt(13)) {
                case 0: house.program(random.nextInt(6) == 0 ? odd(random) : -1); break;
                case 1: house.step(random.nextInt(8), odd(random)); break;
                case 2: house.act(random.nextInt(8), random.nextInt(4), odd(random)); break;
                case 3: house.limit(odd(random), odd(random)); break;
                case 4: house.floor(odd(random), -random.nextInt(1200)); break;
                case 5: house.go(random.nextInt(8) == 0 ? odd(random) : random.nextInt(4)); break;
                case 6: house.fall(odd(random)); break;
                case 7: house.told(odd(random), odd(random)); break;
                case 8: house.holds(odd(random), odd(random)); house.register(odd(random)); break;
                case 9: house.value(odd(random), odd(random)); break;
                case 10: house.log(odd(random), odd(random)); break;
                case 11: house.done(odd(random)); house.count(odd(random)); break;
                default: house.step(odd(random), odd(random)); house.act(odd(random), odd(random), odd(random)); break;
            }
        }
    }

    private static long made() {
        com.sun.management.ThreadMXBean bean = (com.sun.management.ThreadMXBean) ManagementFactory.getThreadMXBean();
        return bean.getThreadAllocatedBytes(Thread.currentThread().getId());
    }

    /**
     * Thirty-six acts that read one cell and then all want to write it, in all ticks that there are: the first of them
     * stays, but is the last to step, so the others, begun again, always read before it can write.
     */
    private static void dearestRun() {
        long before = made();
        ActHouse house = new ActHouse();
        for (int program = 0; program < 4; program++) {
            house.step(program, Due.read(0));
            house.step(program, Due.write(0));
            house.limit(program, 9);
        }
        for (int i = 0; i < 36; i++) {
            house.act(i % 4, i % 4, i == 0 ? 9 : 0);
        }
        for (int i = 0; i < 25; i++) {
            house.go(200);
            house.value(0, 0);
            house.fall(0);
        }
        long bytes = made() - before;
        System.out.println("the dearest run: " + house.count(2) + " entries, " + bytes + " bytes");
        Due.same("it is dear", house.count(2) > 170000, true);
        Due.same("it stays small", bytes < MOST_BYTES, true);
    }

    private static void manyHouses() {
        long before = made();
        for (int i = 0; i < 512; i++) {
            new ActHouse().go(200);
        }
        long bytes = made() - before;
        System.out.println("512 houses: " + bytes + " bytes");
        Due.same("houses are small", bytes < MOST_BYTES, true);
    }
}
