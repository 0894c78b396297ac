/** One object up to its 512th call: what was called before does not wear it out. */
public final class CallsTest {
    private static final int CALLS = 512;
    private static final int MOST = 32767;

    public static void main(String[] args) {
        changesAlone();
        refusalsAlone();
        dearestQuestions();
        Run.finish();
    }

    private static Run start() {
        return Run.of("What it is",
                "An object is used for at most 512 calls after it has been made;");
    }

    private static boolean hasMoreThan(int calls, Run run) {
        return CALLS - run.callsOfObject() > calls;
    }

    /** The last question, which must be the last that the object may be asked. */
    private static void end(Run run, int want, String name, int... args) {
        run.due(want, name, args);
        if (run.callsOfObject() != CALLS) {
            run.report(name, args, "is not the 512th call but the " + run.callsOfObject() + "th");
        }
    }

    private static void changesAlone() {
        Run run = start();
        run.due(0, "component", 1, 1);
        run.due(1, "component", 2, 3);
        int i = 0;
        while (hasMoreThan(5, run)) {
            i++;
            run.due(Run.DONE, "area", i, i, 3 * i, 2 * i);
            run.due(2, "tiles", i, i, i, i);
            run.due(Run.DONE, "coding", 0, i % 33, 2, 3);
            run.due(Run.DONE, "precincts", 1, i % 33, 5, 6);
        }
        while (hasMoreThan(1, run)) {
            run.due(Run.DONE, "area", 1, 2, MOST, MOST);
        }
        end(run, MOST, "tile", 0, 2);
    }

    private static void refusalsAlone() {
        Run run = start();
        run.due(Run.DONE, "area", 3, 5, 40, 37);
        for (int c = 0; c < 16; c++) {
            run.due(c, "component", 1 + c, 1);
        }
        while (hasMoreThan(5, run)) {
            run.due(Run.STATE, "component", 1, 1);
            run.due(Run.ARGUMENT, "tiles", 4, 5, 8, 8);
            run.due(Run.NONE, "tile", 1, 0);
            run.due(Run.NONE, "coefficient", 0, 0, 40, 5, 0);
        }
        while (hasMoreThan(1, run)) {
            run.due(Run.NONE, "part", 0, 16, 0);
        }
        end(run, 40, "part", 0, 0, 2);
    }

    /** The most components and levels, each with the smallest precincts. */
    private static void dearestQuestions() {
        Run run = start();
        run.due(Run.DONE, "area", 0, 0, MOST, MOST);
        for (int c = 0; c < 16; c++) {
            run.due(c, "component", 1, 1);
            run.due(Run.DONE, "coding", c, 32, 2, 2);
            run.due(Run.DONE, "precincts", c, 32, 1, 1);
        }
        // At level 32 a block for each coefficient of the bands 1, 2 and 3; the levels 18 to 31 have
        // blocks of 4 by 4; the bands of 1 to 17 are empty, and level 0 is one block.
        int due = blocksOfPart();
        for (int c = 0; hasMoreThan(1, run); c++) {
            run.due(due, "part", 0, c % 16, 4);
        }
        end(run, due, "part", 0, 15, 4);
    }

    private static int blocksOfPart() {
        int count = MOST * MOST - 16384 * 16384;
        for (int size = 16384; size > 1; size /= 2) {
            int blocks = (size / 2 + 3) / 4;
            count += 3 * blocks * blocks;
        }
        return count + 1;
    }
}
