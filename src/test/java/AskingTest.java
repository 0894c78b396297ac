/**
 * Promises 7 to 15, the calls that ask, sentence by sentence, with answers that were worked out by
 * hand; of a sentence that names a boundary the boundary and its neighbours on both sides.
 */
public final class AskingTest {
    /** Steps 1 and 1, two levels, small blocks and precincts. */
    private static final int FINE = 0;
    /** Steps 1 and 1, no levels, blocks of 4 by 4. */
    private static final int PLAIN = 1;
    /** Steps 3 and 2, all else as it is at first. */
    private static final int STEPS = 2;
    private static final int LAST_COMPONENT = STEPS;

    public static void main(String[] args) {
        tileEdges();
        tileWithoutPicture();
        noSuchTile();
        noSuchWhatOfTile();
        partEdges();
        blocksOfPart();
        blocksOfBandsThatAreEmpty();
        emptyPart();
        noSuchPart();
        noSuchWhatOfPart();
        levelEdges();
        precinctsOfLevel();
        precinctsOfEmptyLevel();
        noSuchLevel();
        bandEdges();
        exponentsOfBand();
        noSuchBand();
        precinctEdges();
        noSuchPrecinct();
        shareEdges();
        emptyShare();
        blocksOfShare();
        noSuchShare();
        blockEdges();
        noSuchBlock();
        whereTilesMeet();
        whereWithoutPicture();
        whereNoComponent();
        whereNoSample();
        whereStepsLeaveNoSample();
        whereFarOut();
        coefficient();
        coefficientWherePrecinctsMeet();
        coefficientOfSmallestPrecincts();
        coefficientWhereBlocksMeet();
        coefficientOfNoPart();
        coefficientOfNoSample();
        noSuchWhatOfCoefficient();
        Run.finish("Promise 7", "Promise 8", "Promise 9", "Promise 10", "Promise 11", "Promise 12",
                "Promise 13", "Promise 14", "Promise 15");
    }

    /** One tile, the picture of 25 by 23. */
    private static Run setUp(String promise, String sentence) {
        Run run = Run.of(promise, sentence);
        run.due(Run.DONE, "area", 5, 3, 30, 26);
        run.due(FINE, "component", 1, 1);
        run.due(Run.DONE, "coding", FINE, 2, 2, 2);
        run.due(Run.DONE, "precincts", FINE, 2, 3, 4);
        run.due(Run.DONE, "precincts", FINE, 1, 2, 3);
        run.due(Run.DONE, "precincts", FINE, 0, 1, 2);
        run.due(PLAIN, "component", 1, 1);
        run.due(Run.DONE, "coding", PLAIN, 0, 2, 2);
        run.due(STEPS, "component", 3, 2);
        return run;
    }

    private static Run setUpTiles(String promise, String sentence) {
        Run run = setUp(promise, sentence);
        run.due(12, "tiles", 2, 1, 10, 8);
        return run;
    }

    /**
     * The argument of that index is answered from first to last, and refused on both sides and far
     * out, where it would be right if its high bits were lost.
     */
    private static void between(Run run, int index, int first, int last, String name,
            int... args) {
        int[] asked = args.clone();
        for (int right : new int[] {first, Math.min(first + 1, last), Math.max(last - 1, first),
            last}) {
            asked[index] = right;
            run.number(name, asked);
        }
        int[] far = {first - 1, last + 1, Integer.MIN_VALUE, Integer.MAX_VALUE,
            Integer.MIN_VALUE + first, first - 65536, first + 65536, first - 256,
            first + (1 << 30)};
        for (int wrong : far) {
            asked[index] = wrong;
            run.refused(Run.NONE, name, asked);
        }
    }

    private static void tileEdges() {
        Run run = setUpTiles("Promise 7", "Of tile t what 0 .. 3 its x0, y0, x1, y1.");
        run.dueEdges(5, 3, 12, 9, "tile", 0);
        run.dueEdges(12, 3, 22, 9, "tile", 1);
        run.dueEdges(22, 3, 30, 9, "tile", 2);
        run.dueEdges(5, 9, 12, 17, "tile", 3);
        run.dueEdges(12, 17, 22, 25, "tile", 7);
        run.dueEdges(12, 25, 22, 26, "tile", 10);
        run.dueEdges(22, 25, 30, 26, "tile", 11);
    }

    private static void tileWithoutPicture() {
        Run run = Run.of("Promise 7", "NoSuchElementException if there is no picture");
        run.dueAround(Run.NONE, Run.NONE, Run.NONE, 1, "tile", 0, 0);
        run.refused(Run.ARGUMENT, "area", 0, 0, 0, 1);
        run.refused(Run.STATE, "tiles", 0, 0, 1, 1);
        run.refused(Run.NONE, "tile", 0, 0);
        run.due(Run.DONE, "area", 0, 0, 1, 1);
        run.dueAround(Run.NONE, 0, 0, 1, "tile", 0, 0);
    }

    private static void noSuchTile() {
        Run run = setUpTiles("Promise 7", "no such tile");
        run.dueAround(Run.NONE, 5, 12, 0, "tile", 0, 0);
        run.dueAround(12, 22, Run.NONE, 0, "tile", 11, 0);
        between(run, 0, 0, 11, "tile", 0, 0);
        run.due(4, "tiles", 2, 1, 20, 24);
        run.dueAround(22, 5, 22, 0, "tile", 2, 0);
        run.dueAround(5, 22, Run.NONE, 0, "tile", 3, 0);
        run.due(Run.DONE, "area", 5, 3, 30, 26);
        run.dueAround(Run.NONE, 5, Run.NONE, 0, "tile", 0, 0);
    }

    private static void noSuchWhatOfTile() {
        Run run = setUpTiles("Promise 7", "or no such what.");
        run.dueAround(Run.NONE, 5, 3, 1, "tile", 0, 0);
        run.dueAround(12, 9, Run.NONE, 1, "tile", 0, 3);
        between(run, 1, 0, 3, "tile", 0, 0);
    }

    private static void partEdges() {
        Run run = setUpTiles("Promise 8", "Of the part that tile t has of component c: likewise;");
        run.dueEdges(5, 3, 12, 9, "part", 0, FINE);
        run.dueEdges(12, 3, 22, 9, "part", 1, FINE);
        run.dueEdges(2, 2, 4, 5, "part", 0, STEPS);
        run.dueEdges(4, 2, 8, 5, "part", 1, STEPS);
        run.dueEdges(2, 5, 4, 9, "part", 3, STEPS);
        run.dueEdges(4, 5, 8, 9, "part", 4, STEPS);
        run.dueEdges(8, 13, 10, 13, "part", 11, STEPS);
    }

    private static void blocksOfPart() {
        Run run = setUp("Promise 8", "4 how many blocks it has in all its bands.");
        // 16, 16, 16 of level 2; 8, 6, 8 of level 1; 6 of level 0.
        run.due(76, "part", 0, FINE, 4);
        run.due(49, "part", 0, PLAIN, 4);
        run.due(1, "part", 0, STEPS, 4);
        for (int length = 15; length <= 17; length++) {
            int columns = length > 16 ? 5 : 4;
            run.due(Run.DONE, "area", 0, 0, length, 16);
            run.due(columns * 4, "part", 0, PLAIN, 4);
            run.due(Run.DONE, "area", 0, 0, 16, length);
            run.due(columns * 4, "part", 0, PLAIN, 4);
        }
        // Precincts 8 wide divide no block of 4; those 4, 2 and 1 wide bound it.
        run.due(Run.DONE, "area", 0, 0, 16, 16);
        int[][] widths = {{3, 16}, {2, 16}, {1, 32}, {0, 64}};
        for (int[] one : widths) {
            run.due(Run.DONE, "precincts", PLAIN, 0, one[0], 15);
            run.due(one[1], "part", 0, PLAIN, 4);
            run.due(Run.DONE, "precincts", PLAIN, 0, 15, one[0]);
            run.due(one[1], "part", 0, PLAIN, 4);
        }
        run.due(Run.DONE, "area", 0, 0, 32767, 32767);
        run.due(Run.DONE, "precincts", PLAIN, 0, 0, 0);
        run.due(32767 * 32767, "part", 0, PLAIN, 4);
    }

    private static void blocksOfBandsThatAreEmpty() {
        Run run = Run.of("Promise 8", "4 how many blocks it has in all its bands.");
        run.due(0, "component", 1, 1);
        run.due(1, "component", 2, 2);
        int[][] blocks = {{0, 0, 1, 1, 1}, {1, 1, 2, 2, 1}, {0, 0, 2, 1, 2}, {0, 0, 1, 2, 2},
            {0, 0, 2, 2, 4}, {1, 0, 2, 2, 2}, {1, 0, 3, 2, 4}};
        for (int n : new int[] {1, 2, 32}) {
            run.due(Run.DONE, "coding", 0, n, 6, 6);
            for (int[] one : blocks) {
                run.due(Run.DONE, "area", one[0], one[1], one[2], one[3]);
                run.due(one[4], "part", 0, 0, 4);
            }
        }
        // An empty part, and its neighbours that have one sample.
        int[][] pictures = {{0, 0, 1, 1, 1}, {1, 0, 2, 1, 0}, {2, 0, 3, 1, 1}, {0, 1, 1, 2, 0},
            {0, 2, 1, 3, 1}, {1, 1, 2, 2, 0}};
        for (int[] one : pictures) {
            run.due(Run.DONE, "area", one[0], one[1], one[2], one[3]);
            run.due(one[4], "part", 0, 1, 4);
        }
    }

    /** Of an empty part there are the edges as they are reckoned, and those of its levels. */
    private static void emptyPart() {
        Run run = Run.of("Promise 8", "Of the part that tile t has of component c: likewise;");
        run.due(Run.DONE, "area", 7, 9, 8, 10);
        run.due(0, "component", 8, 9);
        run.dueEdges(1, 1, 1, 2, "part", 0, 0);
        run.due(Run.DONE, "coding", 0, 1, 2, 2);
        run.due(0, "part", 0, 0, 4);
        run.dueEdges(1, 1, 1, 2, "level", 0, 0, 1);
        run.dueEdges(1, 1, 1, 1, "level", 0, 0, 0);
        run.dueEdges(0, 1, 0, 1, "band", 0, 0, 1, 1);
        run.due(2, "band", 0, 0, 1, 1, 4);
        for (int r = 0; r <= 1; r++) {
            run.due(0, "level", 0, 0, r, 4);
            run.due(0, "level", 0, 0, r, 5);
            run.refused(Run.NONE, "precinct", 0, 0, r, 0, 0);
            run.refused(Run.NONE, "share", 0, 0, r, r, 0, 0);
            run.refused(Run.NONE, "block", 0, 0, r, r, 0, 0, 0);
        }
        run.refused(Run.NONE, "where", 0, 1, 1);
        run.refused(Run.NONE, "coefficient", 0, 0, 1, 1, 0);
    }

    private static void noSuchPart() {
        Run run = setUpTiles("Promise 8", "NoSuchElementException if there is none such");
        run.dueAround(Run.NONE, 2, 4, 0, "part", 0, STEPS, 0);
        run.dueAround(4, 8, Run.NONE, 0, "part", 11, STEPS, 0);
        run.dueAround(Run.NONE, 5, 5, 1, "part", 0, FINE, 0);
        run.dueAround(5, 2, Run.NONE, 1, "part", 0, STEPS, 0);
        for (int what = 0; what <= 4; what++) {
            between(run, 0, 0, 11, "part", 0, STEPS, what);
            between(run, 1, 0, LAST_COMPONENT, "part", 11, STEPS, what);
        }
    }

    private static void noSuchWhatOfPart() {
        Run run = setUpTiles("Promise 8", "or no such what.");
        run.dueAround(Run.NONE, 2, 2, 2, "part", 0, STEPS, 0);
        run.dueAround(5, 1, Run.NONE, 2, "part", 0, STEPS, 4);
        between(run, 2, 0, 4, "part", 11, STEPS, 0);
    }

    private static void levelEdges() {
        Run run = setUp("Promise 9", "Of a part's level r what 0 .. 3 as for tiles");
        run.dueEdges(2, 1, 8, 7, "level", 0, FINE, 0);
        run.dueEdges(3, 2, 15, 13, "level", 0, FINE, 1);
        run.dueEdges(5, 3, 30, 26, "level", 0, FINE, 2);
        run.dueAround(Run.NONE, 5, 3, 3, "level", 0, FINE, 2, 0);
    }

    private static void precinctsOfLevel() {
        Run run = setUp("Promise 9", "4 how many columns of precincts it has, 5 how many rows");
        run.dueAround(3, 4, 4, 2, "level", 0, FINE, 1, 4);
        run.dueAround(2, 2, 2, 2, "level", 0, FINE, 1, 5);
        run.dueAround(26, 4, 2, 3, "level", 0, FINE, 2, 4);
        run.dueAround(4, 2, Run.NONE, 3, "level", 0, FINE, 2, 5);
        // Level 2's columns 5 .. 29 are in the precincts 0 .. 3 of the plane.
        int[][] starts = {{7, 4}, {8, 3}, {9, 3}};
        for (int[] one : starts) {
            run.due(Run.DONE, "area", one[0], 3, 30, 26);
            run.due(one[1], "level", 0, FINE, 2, 4);
        }
        int[][] ends = {{15, 1}, {16, 1}, {17, 2}};
        for (int[] one : ends) {
            run.due(Run.DONE, "area", 5, 3, 30, one[0]);
            run.due(one[1], "level", 0, FINE, 2, 5);
        }
    }

    private static void precinctsOfEmptyLevel() {
        Run run = Run.of("Promise 9", "(both 0 if it is empty).");
        run.due(0, "component", 4, 4);
        int[][] pictures = {{8, 0, 12, 12, 1}, {9, 0, 12, 12, 0}, {10, 0, 12, 12, 0},
            {9, 0, 13, 12, 1}, {0, 8, 12, 12, 1}, {0, 9, 12, 12, 0}, {0, 10, 12, 12, 0},
            {0, 9, 12, 13, 1}, {9, 9, 12, 12, 0}, {9, 9, 13, 12, 0}, {9, 9, 12, 13, 0},
            {9, 9, 13, 13, 1}};
        for (int n : new int[] {0, 1}) {
            run.due(Run.DONE, "coding", 0, n, 6, 6);
            for (int[] one : pictures) {
                run.due(Run.DONE, "area", one[0], one[1], one[2], one[3]);
                run.due(one[4], "level", 0, 0, n, 4);
                run.due(one[4], "level", 0, 0, n, 5);
            }
        }
    }

    private static void noSuchLevel() {
        Run run = setUpTiles("Promise 9", "NoSuchElementException if there is none such.");
        run.dueAround(Run.NONE, 2, 3, 2, "level", 0, FINE, 0, 0);
        run.dueAround(3, 5, Run.NONE, 2, "level", 0, FINE, 2, 0);
        run.dueAround(Run.NONE, 5, Run.NONE, 2, "level", 0, PLAIN, 0, 0);
        run.dueAround(Run.NONE, 5, Run.NONE, 1, "level", 0, FINE, 2, 0);
        for (int what = 0; what <= 5; what++) {
            between(run, 0, 0, 11, "level", 0, FINE, 2, what);
            between(run, 1, 0, LAST_COMPONENT, "level", 0, FINE, 0, what);
            between(run, 2, 0, 2, "level", 0, FINE, 2, what);
        }
        between(run, 3, 0, 5, "level", 0, FINE, 2, 0);
    }

    private static void bandEdges() {
        Run run = setUp("Promise 10", "Of band b of a level: what 0 .. 3;");
        run.dueEdges(2, 1, 8, 7, "band", 0, FINE, 0, 0);
        run.dueEdges(1, 1, 7, 7, "band", 0, FINE, 1, 1);
        run.dueEdges(2, 1, 8, 6, "band", 0, FINE, 1, 2);
        run.dueEdges(1, 1, 7, 6, "band", 0, FINE, 1, 3);
        run.dueEdges(2, 2, 15, 13, "band", 0, FINE, 2, 1);
        run.dueEdges(3, 1, 15, 13, "band", 0, FINE, 2, 2);
        run.dueEdges(2, 1, 15, 13, "band", 0, FINE, 2, 3);
    }

    private static void exponentsOfBand() {
        Run run = setUp("Promise 10", "4 and 5 the exponents w and h of its blocks.");
        int[][] exponents = {{0, 0, 1, 2}, {1, 1, 1, 2}, {1, 3, 1, 2}, {2, 1, 2, 2}, {2, 2, 2, 2}};
        for (int[] one : exponents) {
            run.due(one[2], "band", 0, FINE, one[0], one[1], 4);
            run.due(one[3], "band", 0, FINE, one[0], one[1], 5);
        }
        run.dueAround(13, 2, 2, 4, "band", 0, FINE, 2, 1, 4);
        run.dueAround(2, 2, Run.NONE, 4, "band", 0, FINE, 2, 1, 5);
        // An empty band has them too.
        run.due(Run.DONE, "area", 0, 0, 1, 1);
        run.dueEdges(0, 0, 0, 1, "band", 0, FINE, 1, 1);
        run.due(1, "band", 0, FINE, 1, 1, 4);
        run.due(2, "band", 0, FINE, 1, 1, 5);
    }

    private static void noSuchBand() {
        Run run = setUpTiles("Promise 10", "NoSuchElementException if there is none such.");
        run.dueAround(Run.NONE, 2, Run.NONE, 3, "band", 0, FINE, 0, 0, 0);
        run.dueAround(Run.NONE, 2, Run.NONE, 2, "band", 0, FINE, 0, 0, 0);
        run.dueAround(Run.NONE, 1, 2, 2, "band", 0, FINE, 1, 1, 0);
        run.dueAround(1, 2, Run.NONE, 2, "band", 0, FINE, 2, 1, 0);
        for (int what = 0; what <= 5; what++) {
            between(run, 0, 0, 11, "band", 0, FINE, 2, 3, what);
            between(run, 1, 0, LAST_COMPONENT, "band", 0, FINE, 0, 0, what);
            between(run, 2, 0, 0, "band", 0, FINE, 0, 0, what);
            between(run, 2, 1, 2, "band", 0, FINE, 2, 3, what);
            between(run, 3, 0, 0, "band", 0, FINE, 0, 0, what);
            between(run, 3, 1, 3, "band", 0, FINE, 1, 1, what);
            between(run, 3, 1, 3, "band", 0, FINE, 2, 1, what);
        }
        between(run, 4, 0, 5, "band", 0, FINE, 2, 3, 0);
    }

    private static void precinctEdges() {
        Run run = setUp("Promise 11", "Of precinct p of a level: what 0 .. 3.");
        run.dueEdges(5, 3, 8, 16, "precinct", 0, FINE, 2, 0);
        run.dueEdges(8, 3, 16, 16, "precinct", 0, FINE, 2, 1);
        run.dueEdges(24, 3, 30, 16, "precinct", 0, FINE, 2, 3);
        run.dueEdges(5, 16, 8, 26, "precinct", 0, FINE, 2, 4);
        run.dueEdges(8, 16, 16, 26, "precinct", 0, FINE, 2, 5);
        run.dueEdges(24, 16, 30, 26, "precinct", 0, FINE, 2, 7);
        run.dueEdges(3, 2, 4, 8, "precinct", 0, FINE, 1, 0);
        run.dueEdges(8, 8, 12, 13, "precinct", 0, FINE, 1, 6);
        run.dueEdges(2, 1, 4, 4, "precinct", 0, FINE, 0, 0);
        run.dueEdges(6, 4, 8, 7, "precinct", 0, FINE, 0, 5);
    }

    private static void noSuchPrecinct() {
        Run run = setUp("Promise 11", "NoSuchElementException if there is none such.");
        run.dueAround(Run.NONE, 5, 8, 3, "precinct", 0, FINE, 2, 0, 0);
        run.dueAround(16, 24, Run.NONE, 3, "precinct", 0, FINE, 2, 7, 0);
        run.dueAround(4, 6, Run.NONE, 3, "precinct", 0, FINE, 0, 5, 0);
        run.dueAround(Run.NONE, 5, Run.NONE, 3, "precinct", 0, PLAIN, 0, 0, 0);
        for (int what = 0; what <= 3; what++) {
            between(run, 0, 0, 0, "precinct", 0, FINE, 2, 7, what);
            between(run, 1, 0, LAST_COMPONENT, "precinct", 0, FINE, 0, 0, what);
            between(run, 2, 0, 2, "precinct", 0, FINE, 2, 5, what);
            between(run, 2, 1, 2, "precinct", 0, FINE, 2, 7, what);
            between(run, 3, 0, 7, "precinct", 0, FINE, 2, 7, what);
        }
        between(run, 4, 0, 3, "precinct", 0, FINE, 2, 7, 0);
        emptyLevelHasNoPrecinct(run);
    }

    private static void emptyLevelHasNoPrecinct(Run run) {
        for (int x1 = 11; x1 <= 13; x1++) {
            // With the step 3 a part from 4 on, which ends with 4, 4 and 5.
            run.due(Run.DONE, "area", 10, 0, x1, 9);
            run.dueOrRefused(x1 < 13 ? Run.NONE : 4, "precinct", 0, STEPS, 0, 0, 0);
            run.dueOrRefused(x1 < 13 ? Run.NONE : 4, "share", 0, STEPS, 0, 0, 0, 0);
            run.dueOrRefused(x1 < 13 ? Run.NONE : 4, "block", 0, STEPS, 0, 0, 0, 0, 0);
        }
    }

    private static void shareEdges() {
        Run run = setUp("Promise 12", "Of the share that precinct p has of band b: what 0 .. 3");
        run.dueEdges(2, 2, 4, 8, "share", 0, FINE, 2, 1, 0);
        run.dueEdges(3, 1, 4, 8, "share", 0, FINE, 2, 2, 0);
        run.dueEdges(2, 1, 4, 8, "share", 0, FINE, 2, 3, 0);
        run.dueEdges(4, 1, 8, 8, "share", 0, FINE, 2, 3, 1);
        run.dueEdges(12, 8, 15, 13, "share", 0, FINE, 2, 3, 7);
        run.dueEdges(1, 1, 2, 4, "share", 0, FINE, 1, 1, 0);
        run.dueEdges(6, 1, 8, 4, "share", 0, FINE, 1, 2, 3);
        run.dueEdges(6, 1, 7, 4, "share", 0, FINE, 1, 1, 3);
        run.dueEdges(6, 4, 8, 7, "share", 0, FINE, 0, 0, 5);
    }

    /** Of level 1's band 2 the precincts 0 and 4, the first of their rows, have nothing. */
    private static void emptyShare() {
        Run run = setUp("Promise 12", "(of an empty one 0)");
        int[][] around0 = {{0, 2}, {0, 1}, {0, 4}, {0, 4}};
        int[][] around4 = {{6, 0, 2}, {1, 0, 4}, {8, 0, 4}, {4, 0, 6}};
        for (int what = 0; what <= 3; what++) {
            run.dueAround(Run.NONE, around0[what][0], around0[what][1], 4, "share", 0, FINE, 1, 2,
                    0, what);
            run.dueAround(around4[what][0], around4[what][1], around4[what][2], 4, "share", 0,
                    FINE, 1, 2, 4, what);
        }
        run.dueAround(1, 0, 1, 3, "share", 0, FINE, 1, 2, 0, 0);
        // Empty in one direction, in the other, in both.
        run.due(Run.DONE, "precincts", FINE, 2, 1, 1);
        int[][] pictures = {{1, 0, 4, 4, 2, 0}, {0, 1, 4, 4, 1, 0}, {0, 0, 3, 3, 3, 3},
            {1, 1, 4, 4, 1, 0}, {1, 1, 4, 4, 2, 0}};
        for (int[] one : pictures) {
            run.due(Run.DONE, "area", one[0], one[1], one[2], one[3]);
            for (int what = 0; what <= 5; what++) {
                run.due(0, "share", 0, FINE, 2, one[4], one[5], what);
            }
            run.refused(Run.NONE, "block", 0, FINE, 2, one[4], one[5], 0, 0);
        }
        run.dueEdges(0, 0, 1, 1, "share", 0, FINE, 2, 3, 0);
        // At the end of a level whose last column is even band 1 has none of the last precinct.
        run.due(Run.DONE, "area", 0, 0, 3, 4);
        run.dueEdges(0, 0, 1, 1, "share", 0, FINE, 2, 1, 0);
        run.dueEdges(0, 0, 0, 0, "share", 0, FINE, 2, 1, 1);
        run.dueEdges(1, 0, 2, 1, "share", 0, FINE, 2, 2, 1);
        run.dueEdges(0, 0, 0, 0, "share", 0, FINE, 2, 1, 3);
    }

    private static void blocksOfShare() {
        Run run = setUp("Promise 12", "4 how many columns of blocks, 5 how many rows.");
        run.due(1, "share", 0, FINE, 2, 1, 0, 4);
        run.due(2, "share", 0, FINE, 2, 1, 0, 5);
        run.dueAround(Run.NONE, 0, 1, 4, "share", 0, FINE, 1, 2, 0, 4);
        run.dueAround(Run.NONE, 0, 1, 4, "share", 0, FINE, 1, 2, 0, 5);
        run.dueAround(1, 0, 1, 4, "share", 0, FINE, 1, 2, 4, 4);
        run.dueAround(1, 0, 1, 4, "share", 0, FINE, 1, 2, 4, 5);
        run.dueAround(26, 7, 7, 5, "share", 0, PLAIN, 0, 0, 0, 4);
        run.dueAround(7, 7, Run.NONE, 5, "share", 0, PLAIN, 0, 0, 0, 5);
    }

    private static void noSuchShare() {
        Run run = setUp("Promise 12", "NoSuchElementException if there is none such.");
        run.dueAround(Run.NONE, 2, 4, 4, "share", 0, FINE, 2, 1, 0, 0);
        run.dueAround(8, 12, Run.NONE, 4, "share", 0, FINE, 2, 3, 7, 0);
        run.dueAround(Run.NONE, 2, Run.NONE, 3, "share", 0, FINE, 0, 0, 0, 0);
        for (int what = 0; what <= 5; what++) {
            between(run, 0, 0, 0, "share", 0, FINE, 2, 3, 7, what);
            between(run, 1, 0, LAST_COMPONENT, "share", 0, FINE, 0, 0, 0, what);
            between(run, 2, 0, 0, "share", 0, FINE, 0, 0, 0, what);
            between(run, 2, 1, 2, "share", 0, FINE, 2, 3, 7, what);
            between(run, 3, 0, 0, "share", 0, FINE, 0, 0, 0, what);
            between(run, 3, 1, 3, "share", 0, FINE, 2, 3, 7, what);
            between(run, 4, 0, 7, "share", 0, FINE, 2, 3, 7, what);
            between(run, 4, 0, 5, "share", 0, FINE, 0, 0, 5, what);
        }
        between(run, 5, 0, 5, "share", 0, FINE, 2, 3, 7, 0);
        // Of an empty share too.
        between(run, 5, 0, 5, "share", 0, FINE, 1, 2, 0, 0);
    }

    private static void blockEdges() {
        Run run = setUp("Promise 13", "Of block k of such a share: what 0 .. 3.");
        run.dueEdges(5, 3, 8, 4, "block", 0, PLAIN, 0, 0, 0, 0);
        run.dueEdges(8, 3, 12, 4, "block", 0, PLAIN, 0, 0, 0, 1);
        run.dueEdges(28, 3, 30, 4, "block", 0, PLAIN, 0, 0, 0, 6);
        run.dueEdges(5, 4, 8, 8, "block", 0, PLAIN, 0, 0, 0, 7);
        run.dueEdges(28, 24, 30, 26, "block", 0, PLAIN, 0, 0, 0, 48);
        run.dueEdges(2, 2, 4, 4, "block", 0, FINE, 2, 1, 0, 0);
        run.dueEdges(2, 4, 4, 8, "block", 0, FINE, 2, 1, 0, 1);
        run.dueEdges(12, 12, 15, 13, "block", 0, FINE, 2, 3, 7, 1);
        run.dueEdges(6, 4, 8, 7, "block", 0, FINE, 0, 0, 5, 0);
    }

    private static void noSuchBlock() {
        Run run = setUp("Promise 13", "NoSuchElementException if there is none such.");
        run.dueAround(Run.NONE, 5, 8, 5, "block", 0, PLAIN, 0, 0, 0, 0, 0);
        run.dueAround(24, 28, Run.NONE, 5, "block", 0, PLAIN, 0, 0, 0, 48, 0);
        // The empty share of precinct 0 has no block, its neighbour has one.
        run.dueAround(Run.NONE, Run.NONE, 2, 4, "block", 0, FINE, 1, 2, 0, 0, 0);
        run.dueAround(6, Run.NONE, 2, 4, "block", 0, FINE, 1, 2, 4, 0, 0);
        run.dueAround(Run.NONE, Run.NONE, Run.NONE, 5, "block", 0, FINE, 1, 2, 0, 0, 0);
        for (int what = 0; what <= 3; what++) {
            between(run, 0, 0, 0, "block", 0, FINE, 2, 3, 7, 1, what);
            between(run, 1, 0, LAST_COMPONENT, "block", 0, FINE, 0, 0, 0, 0, what);
            between(run, 2, 0, 0, "block", 0, FINE, 0, 0, 0, 0, what);
            between(run, 2, 1, 2, "block", 0, FINE, 2, 3, 7, 0, what);
            between(run, 3, 0, 0, "block", 0, FINE, 0, 0, 0, 0, what);
            between(run, 3, 1, 3, "block", 0, FINE, 2, 3, 7, 1, what);
            between(run, 4, 0, 7, "block", 0, FINE, 2, 3, 7, 1, what);
            between(run, 5, 0, 1, "block", 0, FINE, 2, 3, 7, 1, what);
            between(run, 5, 0, 48, "block", 0, PLAIN, 0, 0, 0, 48, what);
        }
        between(run, 6, 0, 3, "block", 0, FINE, 2, 3, 7, 1, 0);
    }

    private static void whereTilesMeet() {
        Run run = setUpTiles("Promise 14", "In which tile the sample (x, y) of a component lies.");
        run.dueAround(0, 1, 1, 1, "where", FINE, 12, 3);
        run.dueAround(1, 2, 2, 1, "where", FINE, 22, 3);
        run.dueAround(0, 3, 3, 2, "where", FINE, 5, 9);
        run.dueAround(6, 9, Run.NONE, 2, "where", FINE, 5, 25);
        run.due(4, "where", FINE, 12, 9);
        run.due(11, "where", FINE, 29, 25);
        run.due(4, "where", STEPS, 4, 5);
        run.due(8, "where", STEPS, 9, 12);
        // Tiles that begin with a sample of the component, and between two.
        run.dueAround(0, 1, 1, 1, "where", STEPS, 4, 2);
        run.dueAround(1, 1, 2, 1, "where", STEPS, 7, 2);
        run.dueAround(0, 0, 3, 2, "where", STEPS, 2, 4);
        run.dueAround(3, 3, 6, 2, "where", STEPS, 2, 8);
        run.due(Run.DONE, "area", 5, 3, 30, 26);
        run.dueAround(0, 0, 0, 1, "where", FINE, 12, 3);
        // Tiles of one column, of one row, of one point.
        run.due(25, "tiles", 5, 3, 1, 23);
        run.dueAround(0, 1, 2, 1, "where", FINE, 6, 3);
        run.due(23, "tiles", 5, 3, 25, 1);
        run.dueAround(0, 1, 2, 2, "where", FINE, 5, 4);
        run.due(575, "tiles", 5, 3, 1, 1);
        run.dueAround(0, 1, 2, 1, "where", FINE, 6, 3);
        run.dueAround(0, 25, 50, 2, "where", FINE, 5, 4);
        run.dueAround(573, 574, Run.NONE, 1, "where", FINE, 29, 25);
    }

    private static void whereWithoutPicture() {
        Run run = Run.of("Promise 14", "NoSuchElementException if there is no picture");
        run.refused(Run.NONE, "where", 0, 0, 0);
        run.due(0, "component", 1, 1);
        run.dueAround(Run.NONE, Run.NONE, Run.NONE, 1, "where", 0, 0, 0);
        run.refused(Run.ARGUMENT, "area", 0, 0, 0, 1);
        run.refused(Run.NONE, "where", 0, 0, 0);
        run.due(Run.DONE, "area", 0, 0, 1, 1);
        run.dueAround(Run.NONE, 0, Run.NONE, 1, "where", 0, 0, 0);
    }

    private static void whereNoComponent() {
        Run run = setUpTiles("Promise 14", "no such component");
        run.dueAround(Run.NONE, 0, 0, 0, "where", FINE, 5, 5);
        run.dueAround(3, 8, Run.NONE, 0, "where", STEPS, 9, 12);
        between(run, 0, 0, LAST_COMPONENT, "where", FINE, 9, 12);
    }

    private static void whereNoSample() {
        Run run = setUpTiles("Promise 14", "or no tile's part of it has the sample.");
        run.dueAround(Run.NONE, 0, 0, 1, "where", FINE, 5, 3);
        run.dueAround(Run.NONE, 0, 0, 2, "where", FINE, 5, 3);
        run.dueAround(11, Run.NONE, Run.NONE, 1, "where", FINE, 30, 25);
        run.dueAround(11, Run.NONE, Run.NONE, 2, "where", FINE, 29, 26);
        run.dueAround(Run.NONE, 0, 0, 1, "where", STEPS, 2, 2);
        run.dueAround(Run.NONE, 0, 0, 2, "where", STEPS, 2, 2);
        run.dueAround(8, Run.NONE, Run.NONE, 1, "where", STEPS, 10, 12);
        run.dueAround(8, Run.NONE, Run.NONE, 2, "where", STEPS, 9, 13);
        between(run, 1, 2, 9, "where", STEPS, 2, 2);
        between(run, 2, 2, 12, "where", STEPS, 2, 2);
    }

    private static void whereStepsLeaveNoSample() {
        Run run = Run.of("Promise 14", "or no tile's part of it has the sample.");
        run.due(0, "component", 4, 4);
        int[][] pictures = {{9, 9, 12, 12}, {9, 8, 12, 13}, {8, 9, 13, 12}};
        for (int[] one : pictures) {
            run.due(Run.DONE, "area", one);
            for (int x = 1; x <= 4; x++) {
                for (int y = 1; y <= 4; y++) {
                    run.refused(Run.NONE, "where", 0, x, y);
                }
            }
        }
        run.due(Run.DONE, "area", 9, 9, 13, 13);
        run.dueAround(Run.NONE, 0, Run.NONE, 1, "where", 0, 3, 3);
        run.dueAround(Run.NONE, 0, Run.NONE, 2, "where", 0, 3, 3);
    }

    /** Samples whose point on the grid is in the picture only if its bits above 32 are lost. */
    private static void whereFarOut() {
        Run run = Run.of("Promise 14", "or no tile's part of it has the sample.");
        run.due(Run.DONE, "area", 0, 0, 32767, 32767);
        int[][] wraps = {{1, Integer.MIN_VALUE}, {2, Integer.MIN_VALUE}, {3, 1431655766},
            {4, 1 << 30}, {4, -(1 << 30)}, {128, 1 << 25}, {128, -(1 << 25)}, {255, 16843010},
            {255, -16843009}, {255, Integer.MAX_VALUE}, {254, Integer.MIN_VALUE},
            {3, -1431655765}};
        for (int c = 0; c < wraps.length; c++) {
            int step = wraps[c][0];
            int far = wraps[c][1];
            run.due(c, "component", step, step);
            run.dueAround(Run.NONE, Run.NONE, Run.NONE, 1, "where", c, far, 0);
            run.dueAround(Run.NONE, Run.NONE, Run.NONE, 2, "where", c, 0, far);
            int last = 32766 / step;
            run.dueAround(0, 0, Run.NONE, 1, "where", c, last, last);
            run.dueAround(0, 0, Run.NONE, 2, "where", c, last, last);
        }
    }

    private static void dueCoefficient(Run run, int c, int x, int y, int... due) {
        for (int what = 0; what < due.length; what++) {
            run.due(due[what], "coefficient", 0, c, x, y, what);
        }
    }

    private static void coefficient() {
        Run run = setUp("Promise 15", "Of the coefficient for the sample (x, y) of a part: what 0"
                + " its level, 1 its band, 2 and 3 its x and y in the band, 4 the precinct in whose"
                + " share it is, 5 the block.");
        dueCoefficient(run, FINE, 5, 3, 2, 3, 2, 1, 0, 0);
        dueCoefficient(run, FINE, 29, 25, 2, 3, 14, 12, 7, 1);
        dueCoefficient(run, FINE, 9, 4, 2, 1, 4, 2, 1, 0);
        dueCoefficient(run, FINE, 8, 21, 2, 2, 4, 10, 5, 0);
        dueCoefficient(run, FINE, 6, 4, 1, 1, 1, 1, 0, 0);
        dueCoefficient(run, FINE, 28, 22, 1, 2, 7, 5, 7, 0);
        dueCoefficient(run, FINE, 26, 18, 1, 3, 6, 4, 7, 0);
        dueCoefficient(run, FINE, 8, 4, 0, 0, 2, 1, 0, 0);
        dueCoefficient(run, FINE, 28, 24, 0, 0, 7, 6, 5, 0);
        dueCoefficient(run, PLAIN, 5, 3, 0, 0, 5, 3, 0, 0);
        dueCoefficient(run, PLAIN, 13, 9, 0, 0, 13, 9, 0, 16);
        dueCoefficient(run, PLAIN, 29, 25, 0, 0, 29, 25, 0, 48);
        run.due(Run.DONE, "precincts", PLAIN, 0, 4, 3);
        dueCoefficient(run, PLAIN, 13, 9, 0, 0, 13, 9, 2, 2);
        dueCoefficient(run, PLAIN, 29, 25, 0, 0, 29, 25, 7, 3);
        run.due(12, "tiles", 2, 1, 10, 8);
        // This tile's level has the columns 2 and 3 of the plane's precincts.
        run.due(1, "coefficient", 11, FINE, 28, 25, 4);
    }

    private static void coefficientWherePrecinctsMeet() {
        Run run = Run.of("Promise 15", "4 the precinct in whose share it is");
        run.due(0, "component", 1, 1);
        run.due(Run.DONE, "precincts", 0, 0, 3, 3);
        run.due(Run.DONE, "area", 0, 0, 32, 32);
        run.dueAround(0, 1, 1, 2, "coefficient", 0, 0, 8, 1, 4);
        run.dueAround(0, 4, 4, 3, "coefficient", 0, 0, 1, 8, 4);
        run.due(Run.DONE, "area", 8, 8, 32, 32);
        run.dueAround(0, 1, 1, 2, "coefficient", 0, 0, 16, 9, 4);
        run.dueAround(0, 3, 3, 3, "coefficient", 0, 0, 9, 16, 4);
        run.due(Run.DONE, "area", 7, 7, 32, 32);
        run.dueAround(4, 5, 5, 2, "coefficient", 0, 0, 8, 8, 4);
        run.dueAround(1, 5, 5, 3, "coefficient", 0, 0, 8, 8, 4);
        run.due(Run.DONE, "coding", 0, 1, 6, 6);
        run.due(Run.DONE, "precincts", 0, 1, 3, 3);
        run.due(Run.DONE, "area", 0, 0, 32, 32);
        // All of level 1, as the other coordinate is odd.
        run.dueAround(0, 1, 1, 2, "coefficient", 0, 0, 8, 1, 4);
        run.dueAround(0, 4, 4, 3, "coefficient", 0, 0, 1, 8, 4);
        run.dueAround(2, 3, 3, 2, "coefficient", 0, 0, 24, 1, 4);
        // A precinct with an empty share has its number still.
        run.due(Run.DONE, "area", 7, 8, 32, 32);
        run.dueEdges(0, 0, 0, 0, "share", 0, 0, 1, 2, 0);
        run.due(1, "coefficient", 0, 0, 8, 9, 4);
    }

    private static void coefficientOfSmallestPrecincts() {
        Run run = Run.of("Promise 15", "4 the precinct in whose share it is, 5 the block.");
        run.due(0, "component", 1, 1);
        run.due(Run.DONE, "coding", 0, 0, 2, 2);
        run.due(Run.DONE, "area", 5, 3, 30, 26);
        // One column of samples, blocks of 1 by 4; one row, blocks of 4 by 1; one sample.
        run.due(Run.DONE, "precincts", 0, 0, 0, 15);
        run.dueAround(0, 1, 2, 2, "coefficient", 0, 0, 6, 3, 4);
        run.dueAround(0, 1, 1, 3, "coefficient", 0, 0, 6, 4, 5);
        run.due(Run.DONE, "precincts", 0, 0, 15, 0);
        run.dueAround(0, 1, 2, 3, "coefficient", 0, 0, 5, 4, 4);
        run.dueAround(0, 1, 1, 2, "coefficient", 0, 0, 8, 4, 5);
        run.due(Run.DONE, "precincts", 0, 0, 0, 0);
        run.dueAround(25, 26, 27, 2, "coefficient", 0, 0, 6, 4, 4);
        run.dueAround(1, 26, 51, 3, "coefficient", 0, 0, 6, 4, 4);
        run.dueAround(0, 0, 0, 2, "coefficient", 0, 0, 6, 4, 5);
        // Above level 0 a precinct of 2 by 2 has one coefficient of each band.
        run.due(Run.DONE, "coding", 0, 1, 2, 2);
        run.due(Run.DONE, "precincts", 0, 1, 1, 1);
        run.dueAround(0, 1, 1, 2, "coefficient", 0, 0, 6, 3, 4);
        run.dueAround(0, 13, 13, 3, "coefficient", 0, 0, 5, 4, 4);
        run.dueAround(0, 0, 0, 2, "coefficient", 0, 0, 6, 3, 5);
    }

    private static void coefficientWhereBlocksMeet() {
        Run run = Run.of("Promise 15", "5 the block.");
        run.due(0, "component", 1, 1);
        run.due(Run.DONE, "coding", 0, 0, 2, 2);
        run.due(Run.DONE, "area", 0, 0, 32, 32);
        run.dueAround(0, 1, 1, 2, "coefficient", 0, 0, 4, 1, 5);
        run.dueAround(0, 8, 8, 3, "coefficient", 0, 0, 1, 4, 5);
        // Where a precinct ends its blocks do, and those of the next begin with 0.
        run.due(Run.DONE, "precincts", 0, 0, 3, 3);
        run.dueAround(0, 1, 1, 2, "coefficient", 0, 0, 4, 1, 5);
        run.dueAround(1, 0, 0, 2, "coefficient", 0, 0, 8, 1, 5);
        run.dueAround(2, 0, 0, 3, "coefficient", 0, 0, 1, 8, 5);
        run.due(Run.DONE, "coding", 0, 1, 2, 2);
        run.due(Run.DONE, "precincts", 0, 1, 4, 4);
        run.dueAround(0, 1, 1, 2, "coefficient", 0, 0, 8, 1, 5);
        run.dueAround(0, 2, 2, 3, "coefficient", 0, 0, 1, 8, 5);
        run.dueAround(1, 0, 0, 2, "coefficient", 0, 0, 16, 1, 5);
        // A share that begins within a block, with it, or behind it.
        int[][] starts = {{7, 1}, {8, 0}, {9, 0}};
        for (int[] one : starts) {
            run.due(Run.DONE, "area", one[0], 0, 32, 32);
            run.due(one[1], "coefficient", 0, 0, 9, 1, 5);
        }
    }

    private static void coefficientOfNoPart() {
        Run run = setUpTiles("Promise 15", "NoSuchElementException if there is no such part");
        run.dueAround(Run.NONE, 2, Run.NONE, 0, "coefficient", 1, FINE, 12, 3, 0);
        run.dueAround(Run.NONE, 2, Run.NONE, 0, "coefficient", 0, FINE, 5, 3, 0);
        run.dueAround(Run.NONE, 2, Run.NONE, 0, "coefficient", 11, FINE, 29, 25, 0);
        run.due(Run.DONE, "area", 5, 3, 30, 26);
        run.dueAround(Run.NONE, 2, 0, 1, "coefficient", 0, FINE, 9, 12, 0);
        run.dueAround(0, 0, Run.NONE, 1, "coefficient", 0, STEPS, 9, 12, 0);
        for (int what = 0; what <= 5; what++) {
            between(run, 0, 0, 0, "coefficient", 0, FINE, 9, 12, what);
            between(run, 1, 0, LAST_COMPONENT, "coefficient", 0, FINE, 9, 12, what);
        }
    }

    private static void coefficientOfNoSample() {
        Run run = setUpTiles("Promise 15", "it has no such sample");
        run.dueAround(2, Run.NONE, Run.NONE, 2, "coefficient", 0, FINE, 12, 3, 0);
        run.dueAround(Run.NONE, 2, 2, 2, "coefficient", 1, FINE, 12, 3, 0);
        run.dueAround(2, Run.NONE, Run.NONE, 3, "coefficient", 0, FINE, 5, 9, 0);
        run.dueAround(Run.NONE, 2, 2, 3, "coefficient", 3, FINE, 5, 9, 0);
        run.dueAround(Run.NONE, 2, 2, 2, "coefficient", 0, FINE, 5, 3, 0);
        run.dueAround(Run.NONE, 2, 2, 3, "coefficient", 0, FINE, 5, 3, 0);
        run.dueAround(2, Run.NONE, Run.NONE, 2, "coefficient", 11, FINE, 30, 25, 0);
        run.dueAround(2, Run.NONE, Run.NONE, 3, "coefficient", 11, FINE, 29, 26, 0);
        // The part that is empty: from 8 to 10 and from 13 to 13.
        for (int y = 12; y <= 13; y++) {
            run.dueAround(Run.NONE, Run.NONE, Run.NONE, 2, "coefficient", 11, STEPS, 8, y, 0);
        }
        for (int what = 0; what <= 5; what++) {
            between(run, 2, 22, 29, "coefficient", 11, FINE, 29, 25, what);
            between(run, 3, 9, 16, "coefficient", 3, FINE, 5, 9, what);
        }
    }

    private static void noSuchWhatOfCoefficient() {
        Run run = setUp("Promise 15", "or there is no such what.");
        run.dueAround(Run.NONE, 2, 3, 4, "coefficient", 0, FINE, 29, 25, 0);
        run.dueAround(7, 1, Run.NONE, 4, "coefficient", 0, FINE, 29, 25, 5);
        between(run, 4, 0, 5, "coefficient", 0, FINE, 29, 25, 0);
        between(run, 4, 0, 5, "coefficient", 0, PLAIN, 29, 25, 0);
    }
}
