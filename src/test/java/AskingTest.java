/** Promises 7 to 15: the calls that ask, with answers that were worked out by hand. */
public final class AskingTest {
    /** Steps 1 and 1, two levels, small blocks and precincts. */
    private static final int FINE = 0;
    /** Steps 1 and 1, no levels, blocks of 4 by 4. */
    private static final int PLAIN = 1;
    /** Steps 3 and 2, all else as it is at first. */
    private static final int STEPS = 2;
    private static final int COMPONENTS = 3;

    public static void main(String[] args) {
        tile();
        part();
        emptyPart();
        level();
        band();
        precinct();
        share();
        block();
        where();
        whereFarOut();
        coefficient();
        coefficientWithoutLevels();
        Run.finish();
    }

    /** One tile, the picture of 25 by 23. */
    private static Run setUp(String title) {
        Run run = new Run(title);
        run.due(Run.DONE, "area", 5, 3, 30, 26);
        run.due(FINE, "component", 1, 1);
        run.due(Run.DONE, "coding", FINE, 2, 2, 2);
        run.due(Run.DONE, "precincts", FINE, 2, 3, 4);
        run.due(Run.DONE, "precincts", FINE, 1, 2, 3);
        run.due(Run.DONE, "precincts", FINE, 0, 1, 2);
        run.due(PLAIN, "component", 1, 1);
        run.due(Run.DONE, "coding", PLAIN, 0, 2, 2);
        run.due(STEPS, "component", 3, 2);
        return run;
    }

    private static Run setUpTiles(String title) {
        Run run = setUp(title);
        run.due(12, "tiles", 2, 1, 10, 8);
        return run;
    }

    /** Each argument in turn below 0 and from its end on; the others are right. */
    private static void refuseBeyond(Run run, int[] ends, String name, int... right) {
        run.number(name, right);
        for (int i = 0; i < right.length; i++) {
            int[] wrong = right.clone();
            for (int value : new int[] {-1, ends[i], Integer.MIN_VALUE, Integer.MAX_VALUE}) {
                wrong[i] = value;
                run.refused(Run.NONE, name, wrong);
            }
        }
    }

    private static int[] ends(int... ends) {
        return ends;
    }

    private static void tile() {
        Run run = setUpTiles("promise 7");
        run.dueEdges(5, 3, 12, 9, "tile", 0);
        run.dueEdges(12, 3, 22, 9, "tile", 1);
        run.dueEdges(22, 3, 30, 9, "tile", 2);
        run.dueEdges(5, 9, 12, 17, "tile", 3);
        run.dueEdges(12, 17, 22, 25, "tile", 7);
        run.dueEdges(22, 25, 30, 26, "tile", 11);
        refuseBeyond(run, ends(12, 4), "tile", 11, 3);
    }

    private static void part() {
        Run run = setUpTiles("promise 8");
        run.dueEdges(12, 3, 22, 9, "part", 1, FINE);
        run.dueEdges(2, 2, 4, 5, "part", 0, STEPS);
        run.dueEdges(4, 5, 8, 9, "part", 4, STEPS);
        run.dueEdges(8, 13, 10, 13, "part", 11, STEPS);
        run.due(0, "part", 11, STEPS, 4);
        run.due(1, "part", 4, STEPS, 4);
        run.due(9, "part", 4, PLAIN, 4);
        refuseBeyond(run, ends(12, COMPONENTS, 5), "part", 11, STEPS, 4);

        Run whole = setUp("promise 8, one tile");
        // 16, 16, 16 of level 2; 8, 6, 8 of level 1; 6 of level 0.
        whole.due(76, "part", 0, FINE, 4);
        whole.due(49, "part", 0, PLAIN, 4);
        whole.due(1, "part", 0, STEPS, 4);
    }

    private static void emptyPart() {
        Run run = new Run("an empty part");
        run.due(Run.DONE, "area", 7, 9, 8, 10);
        run.due(0, "component", 8, 9);
        run.dueEdges(1, 1, 1, 2, "part", 0, 0);
        run.due(0, "part", 0, 0, 4);
        run.due(Run.DONE, "coding", 0, 1, 2, 2);
        for (int r = 0; r <= 1; r++) {
            run.due(0, "level", 0, 0, r, 4);
            run.due(0, "level", 0, 0, r, 5);
            run.refused(Run.NONE, "precinct", 0, 0, r, 0, 0);
            run.refused(Run.NONE, "share", 0, 0, r, r, 0, 0);
            run.refused(Run.NONE, "block", 0, 0, r, r, 0, 0, 0);
        }
        run.dueEdges(1, 1, 1, 2, "level", 0, 0, 1);
        run.dueEdges(1, 1, 1, 1, "level", 0, 0, 0);
        run.dueEdges(0, 1, 0, 1, "band", 0, 0, 1, 1);
        run.due(2, "band", 0, 0, 1, 1, 4);
        run.due(0, "part", 0, 0, 4);
        run.refused(Run.NONE, "where", 0, 1, 1);
        run.refused(Run.NONE, "coefficient", 0, 0, 1, 1, 0);
    }

    private static void level() {
        Run run = setUp("promise 9");
        run.dueEdges(5, 3, 30, 26, "level", 0, FINE, 2);
        run.dueEdges(3, 2, 15, 13, "level", 0, FINE, 1);
        run.dueEdges(2, 1, 8, 7, "level", 0, FINE, 0);
        run.due(4, "level", 0, FINE, 2, 4);
        run.due(2, "level", 0, FINE, 2, 5);
        run.due(4, "level", 0, FINE, 1, 4);
        run.due(2, "level", 0, FINE, 1, 5);
        run.due(3, "level", 0, FINE, 0, 4);
        run.due(2, "level", 0, FINE, 0, 5);
        refuseBeyond(run, ends(1, COMPONENTS, 3, 6), "level", 0, FINE, 2, 5);
        run.refused(Run.NONE, "level", 0, PLAIN, 1, 0);
    }

    private static void band() {
        Run run = setUp("promise 10");
        run.dueEdges(2, 1, 8, 7, "band", 0, FINE, 0, 0);
        run.dueEdges(1, 1, 7, 7, "band", 0, FINE, 1, 1);
        run.dueEdges(2, 1, 8, 6, "band", 0, FINE, 1, 2);
        run.dueEdges(1, 1, 7, 6, "band", 0, FINE, 1, 3);
        run.dueEdges(2, 2, 15, 13, "band", 0, FINE, 2, 1);
        run.dueEdges(3, 1, 15, 13, "band", 0, FINE, 2, 2);
        run.dueEdges(2, 1, 15, 13, "band", 0, FINE, 2, 3);
        run.due(1, "band", 0, FINE, 0, 0, 4);
        run.due(2, "band", 0, FINE, 0, 0, 5);
        run.due(1, "band", 0, FINE, 1, 2, 4);
        run.due(2, "band", 0, FINE, 1, 2, 5);
        run.due(2, "band", 0, FINE, 2, 3, 4);
        run.due(2, "band", 0, FINE, 2, 3, 5);
        run.due(6, "band", 0, STEPS, 0, 0, 4);
        refuseBeyond(run, ends(1, COMPONENTS, 3, 4, 6), "band", 0, FINE, 2, 3, 5);
        refuseBandsThatAreNot(run, "band", 0);
        run.due(Run.DONE, "precincts", FINE, 0, 0, 0);
        run.due(0, "band", 0, FINE, 0, 0, 4);
        run.due(0, "band", 0, FINE, 0, 0, 5);
        run.due(Run.DONE, "precincts", FINE, 2, 1, 2);
        run.due(0, "band", 0, FINE, 2, 1, 4);
        run.due(1, "band", 0, FINE, 2, 1, 5);
    }

    /** Level 0 has the band 0 alone, and no other level has it. */
    private static void refuseBandsThatAreNot(Run run, String name, int... more) {
        for (int b = 1; b <= 4; b++) {
            run.refused(Run.NONE, name, Run.with(new int[] {0, FINE, 0, b}, more));
        }
        run.refused(Run.NONE, name, Run.with(new int[] {0, FINE, 1, 0}, more));
        run.refused(Run.NONE, name, Run.with(new int[] {0, FINE, 2, 0}, more));
    }

    private static void precinct() {
        Run run = setUp("promise 11");
        run.dueEdges(5, 3, 8, 16, "precinct", 0, FINE, 2, 0);
        run.dueEdges(24, 3, 30, 16, "precinct", 0, FINE, 2, 3);
        run.dueEdges(8, 16, 16, 26, "precinct", 0, FINE, 2, 5);
        run.dueEdges(24, 16, 30, 26, "precinct", 0, FINE, 2, 7);
        run.dueEdges(3, 2, 4, 8, "precinct", 0, FINE, 1, 0);
        run.dueEdges(8, 8, 12, 13, "precinct", 0, FINE, 1, 6);
        run.dueEdges(2, 1, 4, 4, "precinct", 0, FINE, 0, 0);
        run.dueEdges(6, 4, 8, 7, "precinct", 0, FINE, 0, 5);
        run.dueEdges(5, 3, 30, 26, "precinct", 0, PLAIN, 0, 0);
        refuseBeyond(run, ends(1, COMPONENTS, 3, 8, 4), "precinct", 0, FINE, 2, 7, 3);
        run.refused(Run.NONE, "precinct", 0, FINE, 0, 6, 0);
    }

    private static void share() {
        Run run = setUp("promise 12");
        run.dueEdges(2, 2, 4, 8, "share", 0, FINE, 2, 1, 0);
        run.due(1, "share", 0, FINE, 2, 1, 0, 4);
        run.due(2, "share", 0, FINE, 2, 1, 0, 5);
        run.dueEdges(3, 1, 4, 8, "share", 0, FINE, 2, 2, 0);
        run.dueEdges(12, 8, 15, 13, "share", 0, FINE, 2, 3, 7);
        run.dueEdges(1, 1, 2, 4, "share", 0, FINE, 1, 1, 0);
        run.dueEdges(6, 1, 8, 4, "share", 0, FINE, 1, 2, 3);
        run.dueEdges(6, 1, 7, 4, "share", 0, FINE, 1, 1, 3);
        run.dueEdges(6, 4, 8, 7, "share", 0, FINE, 0, 0, 5);
        run.dueEdges(5, 3, 30, 26, "share", 0, PLAIN, 0, 0, 0);
        run.due(7, "share", 0, PLAIN, 0, 0, 0, 4);
        run.due(7, "share", 0, PLAIN, 0, 0, 0, 5);
        // Right of these precincts' columns in the band; the rows alone would not be empty.
        for (int p = 0; p <= 4; p += 4) {
            run.dueEdges(0, 0, 0, 0, "share", 0, FINE, 1, 2, p);
            run.due(0, "share", 0, FINE, 1, 2, p, 4);
            run.due(0, "share", 0, FINE, 1, 2, p, 5);
        }
        refuseBeyond(run, ends(1, COMPONENTS, 3, 4, 8, 6), "share", 0, FINE, 2, 3, 7, 5);
        refuseBandsThatAreNot(run, "share", 0, 0);
    }

    private static void block() {
        Run run = setUp("promise 13");
        run.dueEdges(2, 2, 4, 4, "block", 0, FINE, 2, 1, 0, 0);
        run.dueEdges(2, 4, 4, 8, "block", 0, FINE, 2, 1, 0, 1);
        run.dueEdges(12, 12, 15, 13, "block", 0, FINE, 2, 3, 7, 1);
        run.dueEdges(6, 4, 8, 7, "block", 0, FINE, 0, 0, 5, 0);
        run.dueEdges(5, 3, 8, 4, "block", 0, PLAIN, 0, 0, 0, 0);
        run.dueEdges(8, 3, 12, 4, "block", 0, PLAIN, 0, 0, 0, 1);
        run.dueEdges(5, 4, 8, 8, "block", 0, PLAIN, 0, 0, 0, 7);
        run.dueEdges(28, 24, 30, 26, "block", 0, PLAIN, 0, 0, 0, 48);
        run.refused(Run.NONE, "block", 0, PLAIN, 0, 0, 0, 49, 0);
        // An empty share has none.
        run.refused(Run.NONE, "block", 0, FINE, 1, 2, 0, 0, 0);
        refuseBeyond(run, ends(1, COMPONENTS, 3, 4, 8, 2, 4), "block", 0, FINE, 2, 3, 7, 1, 3);
        refuseBandsThatAreNot(run, "block", 0, 0, 0);
    }

    private static void where() {
        Run run = setUpTiles("promise 14");
        run.due(0, "where", FINE, 5, 3);
        run.due(0, "where", FINE, 11, 8);
        run.due(1, "where", FINE, 12, 8);
        run.due(3, "where", FINE, 11, 9);
        run.due(11, "where", FINE, 29, 25);
        run.due(0, "where", STEPS, 2, 3);
        run.due(4, "where", STEPS, 4, 5);
        run.due(8, "where", STEPS, 9, 12);
        int[][] outside = {{FINE, 4, 3}, {FINE, 5, 2}, {FINE, 30, 25}, {FINE, 29, 26},
            {STEPS, 1, 2}, {STEPS, 2, 1}, {STEPS, 10, 5}, {STEPS, 9, 13}};
        for (int[] one : outside) {
            run.refused(Run.NONE, "where", one);
        }
        refuseBeyond(run, ends(COMPONENTS, 10, 13), "where", STEPS, 9, 12);
        run.due(Run.DONE, "area", 5, 3, 30, 26);
        run.due(0, "where", FINE, 29, 25);
    }

    /** The point of such a sample on the grid is above all int: its low bits are not. */
    private static void whereFarOut() {
        Run run = new Run("promise 14, far out");
        run.due(Run.DONE, "area", 0, 0, 32767, 32767);
        run.due(0, "component", 255, 255);
        run.due(0, "where", 0, 128, 128);
        run.refused(Run.NONE, "where", 0, 129, 128);
        run.refused(Run.NONE, "where", 0, 128, 129);
        run.refused(Run.NONE, "where", 0, 16843010, 0);
        run.refused(Run.NONE, "where", 0, 0, 16843010);
        run.refused(Run.NONE, "where", 0, -1, 0);
        run.refused(Run.NONE, "where", 0, 0, -16843009);
    }

    private static void dueCoefficient(Run run, int c, int x, int y, int... due) {
        for (int what = 0; what < due.length; what++) {
            run.due(due[what], "coefficient", 0, c, x, y, what);
        }
    }

    private static void coefficient() {
        Run run = setUp("promise 15");
        dueCoefficient(run, FINE, 5, 3, 2, 3, 2, 1, 0, 0);
        dueCoefficient(run, FINE, 29, 25, 2, 3, 14, 12, 7, 1);
        dueCoefficient(run, FINE, 9, 4, 2, 1, 4, 2, 1, 0);
        dueCoefficient(run, FINE, 8, 21, 2, 2, 4, 10, 5, 0);
        dueCoefficient(run, FINE, 6, 4, 1, 1, 1, 1, 0, 0);
        dueCoefficient(run, FINE, 28, 22, 1, 2, 7, 5, 7, 0);
        dueCoefficient(run, FINE, 26, 18, 1, 3, 6, 4, 7, 0);
        dueCoefficient(run, FINE, 8, 4, 0, 0, 2, 1, 0, 0);
        dueCoefficient(run, FINE, 28, 24, 0, 0, 7, 6, 5, 0);
        int[][] outside = {{4, 3}, {5, 2}, {30, 25}, {29, 26}, {0, 0}};
        for (int[] one : outside) {
            run.refused(Run.NONE, "coefficient", 0, FINE, one[0], one[1], 0);
        }
        refuseBeyond(run, ends(1, COMPONENTS, 30, 26, 6), "coefficient", 0, FINE, 29, 25, 5);
        run.due(12, "tiles", 2, 1, 10, 8);
        // This tile's level has the columns 2 and 3 of the plane's precincts.
        run.due(1, "coefficient", 11, FINE, 28, 25, 4);
        run.refused(Run.NONE, "coefficient", 10, FINE, 28, 25, 4);
    }

    private static void coefficientWithoutLevels() {
        Run run = setUp("promise 15, no levels");
        dueCoefficient(run, PLAIN, 5, 3, 0, 0, 5, 3, 0, 0);
        dueCoefficient(run, PLAIN, 13, 9, 0, 0, 13, 9, 0, 16);
        dueCoefficient(run, PLAIN, 29, 25, 0, 0, 29, 25, 0, 48);
        run.due(Run.DONE, "precincts", PLAIN, 0, 4, 3);
        dueCoefficient(run, PLAIN, 13, 9, 0, 0, 13, 9, 2, 2);
        dueCoefficient(run, PLAIN, 29, 25, 0, 0, 29, 25, 7, 3);
    }
}
