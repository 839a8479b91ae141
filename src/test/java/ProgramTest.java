/** Promises 2 and 3: program and step. */
public final class ProgramTest {
    public static void main(String[] args) {
        wrongPrograms();
        wrongSteps();
        stepsAtTheirEdges();
        twelveStepsAtMost();
        begunActsGoOnAsTheyWere();
        waitingActsTakeTheNewSteps();
        Due.end("ProgramTest");
    }

    private static void wrongPrograms() {
        ActHouse house = new ActHouse();
        for (int program : Due.FAR) {
            Due.same("program(" + program + ")", house.program(program), false);
            Due.same("step(" + program + ", 0)", house.step(program, 0), -1);
        }
        Due.same("program(8)", house.program(8), false);
        Due.same("step(8, 0)", house.step(8, 0), -1);
        Due.same("program(7)", house.program(7), true);
        Due.same("program(0)", house.program(0), true);
    }

    private static void wrongSteps() {
        ActHouse house = new ActHouse();
        int[] wrong = {-1, -10000, Integer.MIN_VALUE, Integer.MAX_VALUE, 90000, 100000, 2400, 9999, 32400, 39900,
            42400, 49999, 60800, 69999, 70800, 79999};
        for (int step : wrong) {
            Due.same("step(0, " + step + ")", house.step(0, step), -1);
        }
        Due.same("none of them came", house.step(0, 0), 1);
    }

    private static void stepsAtTheirEdges() {
        ActHouse house = new ActHouse();
        int[] fine = {0, 2399, 10000, 19999, 29999, 32399, 42399, 50000, 59999, 60799, 70799, 89999};
        for (int i = 0; i < fine.length; i++) {
            Due.same("step(7, " + fine[i] + ")", house.step(7, fine[i]), i + 1);
        }
    }

    private static void twelveStepsAtMost() {
        ActHouse house = new ActHouse();
        for (int i = 1; i <= 12; i++) {
            Due.same("step " + i, house.step(3, Due.add(1)), i);
        }
        Due.same("step 13", house.step(3, Due.add(1)), -1);
        Due.same("its neighbour", house.step(4, Due.add(1)), 1);
        Due.same("program(3)", house.program(3), true);
        Due.same("again the first", house.step(3, Due.add(1)), 1);
        Due.same("the neighbour keeps its own", house.step(4, Due.add(1)), 2);
    }

    private static void begunActsGoOnAsTheyWere() {
        ActHouse house = new ActHouse();
        Due.lay(house, 0, Due.set(5), Due.add(2), Due.write(0));
        house.act(0, 0, 0);
        house.go(2);
        Due.lay(house, 0, Due.set(9), Due.write(1));
        Due.same("go", house.go(4), 6);
        Due.same("the old steps were done", house.value(0, 6), 7);
        Due.same("the new ones were not", house.value(1, 6), 0);
    }

    private static void waitingActsTakeTheNewSteps() {
        ActHouse house = new ActHouse();
        Due.lay(house, 0, Due.set(5), Due.write(0));
        house.act(0, 0, 0);
        Due.same("program(0)", house.program(0), true);
        house.go(5);
        Due.same("without steps it waits", house.told(0, 0), 0);
        Due.lay(house, 0, Due.set(9), Due.write(1));
        house.go(3);
        Due.same("the new ones are done", house.value(1, 8), 9);
        Due.same("the old ones are not", house.value(0, 8), 0);
    }
}
