/**
 * The sentences of "Terms": each is asked at the boundary that it names and at its neighbours on
 * both sides, in both directions.
 */
public final class TermsTest {
    private static final String TERMS = "Terms";

    public static void main(String[] args) {
        calls();
        grid();
        rectangle();
        emptyRectangle();
        picture();
        whereTilesBegin();
        whatTheFirstTileHas();
        howManyTiles();
        numbersOfTiles();
        rectangleOfTile();
        components();
        dividingUpwards();
        part();
        emptyPart();
        levels();
        rectangleOfLevel();
        bandOfLevel0();
        bandsAbove();
        rectangleOfBand();
        rectangleOfBandWithMostLevels();
        columnsOfPrecincts();
        numbersOfPrecincts();
        noPrecinctsOfEmptyLevel();
        rectangleOfPrecinct();
        shareOfLevel0();
        shareAboveWhereTheLevelBegins();
        shareAboveWhereTheLevelEnds();
        shareOfSmallestAndLargestPrecincts();
        columnsOfBlocks();
        exponentsOfBlocks();
        numbersOfBlocks();
        noBlocksOfEmptyShare();
        rectangleOfBlock();
        coefficientAtLevel0();
        coefficientOfOddSamples();
        coefficientGoesOn();
        changesNothing();
        namedFirst();
        Run.finish(TERMS);
    }

    private static Run of(String sentence) {
        return Run.of(TERMS, sentence);
    }

    private static Run withComponent(String sentence, int dx, int dy) {
        Run run = of(sentence);
        run.due(0, "component", dx, dy);
        return run;
    }

    private static int[] square(int start, int end) {
        return new int[] {start, start, end, end};
    }

    private static Object[] three(Object below, Object at, Object above) {
        return new Object[] {below, at, above};
    }

    /**
     * What is asked, the last argument being what, of the picture with its x0 (edge 0) or x1 (2)
     * one below, as it is and one above; then likewise of y0 or y1, with the next what.
     */
    private static void aroundEdge(Run run, int edge, int[] picture, Object[] wants, String name,
            int... args) {
        for (int axis = 0; axis <= 1; axis++) {
            int[] asked = args.clone();
            asked[asked.length - 1] += axis;
            aroundOneEdge(run, edge + axis, picture, wants, name, asked);
        }
    }

    private static void aroundOneEdge(Run run, int edge, int[] picture, Object[] wants,
            String name, int... args) {
        for (int step = -1; step <= 1; step++) {
            int[] moved = picture.clone();
            moved[edge] += step;
            run.due(Run.DONE, "area", moved);
            run.dueOrRefused(wants[step + 1], name, args);
        }
    }

    /** The 511th and the 512th call are answered as any other, be it one that asks or changes. */
    private static void calls() {
        Run run = Run.of("What it is",
                "An object is used for at most 512 calls after it has been made");
        run.due(Run.DONE, "area", 0, 0, 40, 40);
        run.due(0, "component", 1, 1);
        for (int i = 2; i < 512; i += 2) {
            int size = 1 + i % 40;
            int along = (40 + size - 1) / size;
            run.due(along * along, "tiles", 0, 0, size, size);
            run.due(size, "part", 0, 0, 2);
        }
        Run changing = Run.of("What it is",
                "An object is used for at most 512 calls after it has been made");
        changing.due(Run.DONE, "area", 0, 0, 40, 40);
        for (int i = 1; i < 511; i++) {
            changing.due(40, "tile", 0, 2);
        }
        changing.due(100, "tiles", 0, 0, 4, 4);
    }

    private static void grid() {
        Run run = withComponent("THE GRID has points (x, y) with x and y from 0 on.", 1, 1);
        run.dueAround(Run.ARGUMENT, Run.DONE, Run.DONE, 0, "area", 0, 0, 9, 9);
        run.dueAround(Run.ARGUMENT, Run.DONE, Run.DONE, 1, "area", 0, 0, 9, 9);
        run.due(Run.DONE, "area", 0, 0, 9, 9);
        run.dueAround(Run.NONE, 0, 0, 1, "where", 0, 0, 0);
        run.dueAround(Run.NONE, 0, 0, 2, "where", 0, 0, 0);
    }

    private static void rectangle() {
        Run run = withComponent(
                "A RECTANGLE x0, y0, x1, y1 has those with x0 <= x < x1 and y0 <= y < y1;", 1, 1);
        run.due(Run.DONE, "area", 10, 20, 13, 24);
        run.dueAround(Run.NONE, 0, 0, 1, "where", 0, 10, 20);
        run.dueAround(Run.NONE, 0, 0, 2, "where", 0, 10, 20);
        run.dueAround(0, Run.NONE, Run.NONE, 1, "where", 0, 13, 23);
        run.dueAround(0, Run.NONE, Run.NONE, 2, "where", 0, 12, 24);
        run.dueAround(Run.NONE, 10, 11, 2, "coefficient", 0, 0, 10, 20, 2);
        run.dueAround(Run.NONE, 20, 21, 3, "coefficient", 0, 0, 10, 20, 3);
        run.dueAround(12, Run.NONE, Run.NONE, 2, "coefficient", 0, 0, 13, 23, 2);
        run.dueAround(23, Run.NONE, Run.NONE, 3, "coefficient", 0, 0, 12, 24, 3);
    }

    private static void emptyRectangle() {
        Run run = of("it is EMPTY if there are none.");
        run.dueAround(Run.ARGUMENT, Run.ARGUMENT, Run.DONE, 2, "area", 10, 20, 10, 24);
        run.dueEdges(10, 20, 11, 24, "tile", 0);
        run.dueAround(Run.ARGUMENT, Run.ARGUMENT, Run.DONE, 3, "area", 10, 20, 13, 20);
        run.dueEdges(10, 20, 13, 21, "tile", 0);
        run.dueAround(Run.DONE, Run.ARGUMENT, Run.ARGUMENT, 0, "area", 13, 20, 13, 24);
        run.dueEdges(12, 20, 13, 24, "tile", 0);
        run.dueAround(Run.DONE, Run.ARGUMENT, Run.ARGUMENT, 1, "area", 10, 24, 13, 24);
        run.dueEdges(10, 23, 13, 24, "tile", 0);
        run.refused(Run.ARGUMENT, "area", 10, 20, 10, 20);
        run.refused(Run.ARGUMENT, "area", 13, 24, 10, 20);
    }

    private static void picture() {
        Run run = withComponent("The PICTURE is one, not empty.", 1, 1);
        run.refused(Run.ARGUMENT, "area", 5, 5, 5, 5);
        run.refused(Run.STATE, "tiles", 5, 5, 1, 1);
        run.due(Run.DONE, "area", 5, 5, 6, 6);
        run.due(1, "tiles", 5, 5, 1, 1);
        run.dueEdges(5, 5, 6, 6, "tile", 0);
        run.due(1, "part", 0, 0, 4);
        run.dueAround(Run.NONE, 0, Run.NONE, 1, "where", 0, 5, 5);
        run.dueAround(Run.NONE, 0, Run.NONE, 2, "where", 0, 5, 5);
    }

    private static void whereTilesBegin() {
        Run run = of("laid side by side from a point on that is not right of the picture's x0 nor"
                + " below its y0");
        run.due(Run.DONE, "area", 10, 20, 30, 40);
        run.dueAround(20, 16, Run.ARGUMENT, 0, "tiles", 10, 20, 5, 5);
        run.dueAround(20, 16, Run.ARGUMENT, 1, "tiles", 10, 20, 5, 5);
        run.due(16, "tiles", 10, 20, 5, 5);
        run.dueEdges(10, 20, 15, 25, "tile", 0);
        run.due(20, "tiles", 9, 20, 5, 5);
        run.dueEdges(10, 20, 14, 25, "tile", 0);
        run.due(20, "tiles", 10, 19, 5, 5);
        run.dueEdges(10, 20, 15, 24, "tile", 0);
    }

    private static void whatTheFirstTileHas() {
        Run run = of("such that the first tile has some of the picture's first column and row;");
        run.due(Run.DONE, "area", 10, 20, 30, 40);
        run.dueAround(Run.ARGUMENT, Run.ARGUMENT, 16, 2, "tiles", 3, 20, 7, 5);
        run.dueEdges(10, 20, 11, 25, "tile", 0);
        run.dueAround(Run.ARGUMENT, Run.ARGUMENT, 16, 3, "tiles", 10, 13, 5, 7);
        run.dueEdges(10, 20, 15, 21, "tile", 0);
        run.dueAround(Run.ARGUMENT, Run.ARGUMENT, 20, 0, "tiles", 5, 20, 5, 5);
        run.dueEdges(10, 20, 11, 25, "tile", 0);
        run.dueAround(Run.ARGUMENT, Run.ARGUMENT, 20, 1, "tiles", 10, 15, 5, 5);
        run.dueEdges(10, 20, 15, 21, "tile", 0);
    }

    private static void howManyTiles() {
        Run run = of("there are as many as it takes to have all of the picture");
        run.due(Run.DONE, "area", 0, 0, 12, 12);
        run.dueAround(2, 1, 1, 2, "tiles", 0, 0, 12, 12);
        run.dueAround(2, 1, 1, 3, "tiles", 0, 0, 12, 12);
        run.dueAround(3, 2, 2, 2, "tiles", 0, 0, 6, 12);
        run.dueAround(3, 2, 2, 3, "tiles", 0, 0, 12, 6);
        run.due(Run.DONE, "area", 5, 5, 12, 12);
        run.dueAround(2, 1, 1, 0, "tiles", 3, 5, 9, 7);
        run.dueAround(2, 1, 1, 1, "tiles", 5, 3, 7, 9);
    }

    private static void numbersOfTiles() {
        Run run = of("numbered from 0 row by row. A tile's");
        run.due(Run.DONE, "area", 0, 0, 12, 12);
        run.due(12, "tiles", 0, 0, 4, 3);
        run.dueAround(Run.NONE, 0, 4, 0, "tile", 0, 0);
        run.dueAround(4, 8, 0, 0, "tile", 2, 0);
        run.dueAround(0, 0, 3, 0, "tile", 2, 1);
        run.dueAround(4, 8, Run.NONE, 0, "tile", 11, 0);
        run.dueAround(9, 9, Run.NONE, 0, "tile", 11, 1);
    }

    private static void rectangleOfTile() {
        Run run = of("A tile's rectangle is what it has of the picture.");
        for (int axis = 0; axis <= 1; axis++) {
            // A picture that ends one before the third tile does, with it, and one behind it.
            int third = axis == 0 ? 2 : 6;
            for (int end = 19; end <= 21; end++) {
                int[] picture = square(5, 20);
                picture[2 + axis] = end;
                run.due(Run.DONE, "area", picture);
                run.due(end > 20 ? 12 : 9, "tiles", 5, 5, 5, 5);
                run.due(15, "tile", third, axis);
                run.due(Math.min(end, 20), "tile", third, 2 + axis);
            }
            int fourth = axis == 0 ? 3 : 9;
            run.due(20, "tile", fourth, axis);
            run.due(21, "tile", fourth, 2 + axis);
        }
        // A first tile that begins with the picture, and one before it.
        run.due(Run.DONE, "area", 5, 5, 20, 20);
        run.due(1, "tiles", 5, 5, 16, 16);
        run.dueEdges(5, 5, 20, 20, "tile", 0);
        run.due(1, "tiles", 4, 4, 16, 16);
        run.dueEdges(5, 5, 20, 20, "tile", 0);
        run.due(Run.DONE, "area", 5, 7, 20, 22);
        run.due(6, "tiles", 4, 6, 6, 8);
        run.dueEdges(5, 7, 10, 14, "tile", 0);
        run.dueEdges(10, 7, 16, 14, "tile", 1);
        run.dueEdges(16, 14, 20, 22, "tile", 5);
    }

    private static void components() {
        Run run = of("COMPONENTS 0, 1, .. have a STEP in each direction (dx, dy), LEVELS N,"
                + " BLOCKS of 2 to the power of two exponents (bw wide, bh high), and for each"
                + " level PRECINCTS of 2 to the power of two others (pw, ph).");
        run.due(Run.DONE, "area", 0, 0, 64, 64);
        run.due(0, "component", 2, 4);
        run.due(1, "component", 4, 2);
        run.due(Run.DONE, "coding", 0, 1, 3, 2);
        run.due(Run.DONE, "coding", 1, 1, 2, 3);
        run.due(Run.DONE, "precincts", 0, 0, 1, 2);
        run.due(Run.DONE, "precincts", 0, 1, 3, 4);
        run.due(Run.DONE, "precincts", 1, 0, 2, 1);
        run.due(Run.DONE, "precincts", 1, 1, 4, 3);
        run.dueAround(Run.NONE, 32, 16, 1, "part", 0, 0, 2);
        run.dueAround(32, 16, Run.NONE, 1, "part", 0, 1, 2);
        run.dueEdges(0, 0, 32, 16, "part", 0, 0);
        run.dueEdges(0, 0, 16, 32, "part", 0, 1);
        int[][] columnsAndRows = {{0, 0, 8, 2}, {0, 1, 4, 1}, {1, 0, 2, 8}, {1, 1, 1, 4}};
        for (int[] one : columnsAndRows) {
            run.due(one[2], "level", 0, one[0], one[1], 4);
            run.due(one[3], "level", 0, one[0], one[1], 5);
        }
        int[][] exponents = {{0, 0, 0, 1, 2}, {0, 1, 1, 2, 2}, {1, 0, 0, 2, 1}, {1, 1, 1, 2, 2}};
        for (int[] one : exponents) {
            run.due(one[3], "band", 0, one[0], one[1], one[2], 4);
            run.due(one[4], "band", 0, one[0], one[1], one[2], 5);
        }
    }

    private static void dividingUpwards() {
        Run run = withComponent("Dividing upwards is to the next whole number not below.", 4, 4);
        run.due(1, "component", 1, 1);
        run.due(2, "component", 255, 255);
        aroundEdge(run, 0, square(1, 40), three(0, 1, 1), "part", 0, 0, 0);
        aroundEdge(run, 0, square(8, 40), three(2, 2, 3), "part", 0, 0, 0);
        aroundEdge(run, 2, square(8, 40), three(10, 10, 11), "part", 0, 0, 2);
        aroundEdge(run, 0, square(8, 40), three(7, 8, 9), "part", 0, 1, 0);
        aroundEdge(run, 2, square(8, 40), three(39, 40, 41), "part", 0, 1, 2);
        aroundEdge(run, 0, square(255, 600), three(1, 1, 2), "part", 0, 2, 0);
        aroundEdge(run, 2, square(0, 32640), three(128, 128, 129), "part", 0, 2, 2);
    }

    private static void part() {
        Run run = withComponent("What a tile has of a component is a PART: the rectangle of the"
                + " tile, x divided by dx, y by dy, upwards.", 3, 5);
        run.due(Run.DONE, "area", 4, 6, 31, 33);
        run.dueEdges(2, 2, 11, 7, "part", 0, 0);
        run.due(12, "tiles", 1, 2, 10, 9);
        run.dueEdges(2, 2, 4, 3, "part", 0, 0);
        run.dueEdges(4, 2, 7, 3, "part", 1, 0);
        run.dueEdges(2, 3, 4, 4, "part", 3, 0);
        run.dueEdges(7, 6, 11, 7, "part", 11, 0);
    }

    /** There is a part still, with the edges that it has, but no sample and no block in it. */
    private static void emptyPart() {
        Run run = withComponent("What a tile has of a component is a PART", 4, 4);
        int[] wide = {9, 0, 12, 12};
        aroundOneEdge(run, 2, wide, three(3, 3, 4), "part", 0, 0, 2);
        aroundOneEdge(run, 2, wide, three(3, 3, 3), "part", 0, 0, 0);
        aroundOneEdge(run, 2, wide, three(0, 0, 1), "part", 0, 0, 4);
        aroundOneEdge(run, 2, wide, three(Run.NONE, Run.NONE, 0), "where", 0, 3, 0);
        aroundOneEdge(run, 2, wide, three(Run.NONE, Run.NONE, 3), "coefficient", 0, 0, 3, 0, 2);
        int[] high = {0, 9, 12, 12};
        aroundOneEdge(run, 3, high, three(3, 3, 4), "part", 0, 0, 3);
        aroundOneEdge(run, 3, high, three(3, 3, 3), "part", 0, 0, 1);
        aroundOneEdge(run, 3, high, three(0, 0, 1), "part", 0, 0, 4);
        aroundOneEdge(run, 3, high, three(Run.NONE, Run.NONE, 0), "where", 0, 0, 3);
        aroundOneEdge(run, 3, high, three(Run.NONE, Run.NONE, 3), "coefficient", 0, 0, 0, 3, 3);
    }

    private static void levels() {
        Run run = withComponent("LEVEL r of a part, 0 .. N", 1, 1);
        run.due(Run.DONE, "area", 16, 16, 32, 32);
        run.dueAround(Run.NONE, 16, Run.NONE, 2, "level", 0, 0, 0, 0);
        run.due(Run.DONE, "coding", 0, 1, 6, 6);
        run.dueAround(Run.NONE, 8, 16, 2, "level", 0, 0, 0, 0);
        run.dueAround(8, 16, Run.NONE, 2, "level", 0, 0, 1, 0);
        run.due(Run.DONE, "coding", 0, 3, 6, 6);
        run.dueAround(Run.NONE, 2, 4, 2, "level", 0, 0, 0, 0);
        run.dueAround(8, 16, Run.NONE, 2, "level", 0, 0, 3, 0);
        run.due(Run.DONE, "coding", 0, 32, 6, 6);
        run.dueAround(Run.NONE, 1, 1, 2, "level", 0, 0, 0, 0);
        run.dueAround(8, 16, Run.NONE, 2, "level", 0, 0, 32, 0);
    }

    private static void rectangleOfLevel() {
        Run run = withComponent("is its rectangle divided by 2 to the N - r upwards.", 1, 1);
        run.due(Run.DONE, "coding", 0, 3, 6, 6);
        int[] picture = square(16, 32);
        Object[][] starts = {three(2, 2, 3), three(4, 4, 5), three(8, 8, 9), three(15, 16, 17)};
        Object[][] ends = {three(4, 4, 5), three(8, 8, 9), three(16, 16, 17), three(31, 32, 33)};
        for (int r = 0; r <= 3; r++) {
            aroundEdge(run, 0, picture, starts[r], "level", 0, 0, r, 0);
            aroundEdge(run, 2, picture, ends[r], "level", 0, 0, r, 2);
        }
        run.due(Run.DONE, "coding", 0, 32, 6, 6);
        aroundEdge(run, 0, square(1, 40), three(0, 1, 1), "level", 0, 0, 0, 0);
        aroundEdge(run, 2, square(0, 32766), three(1, 1, 1), "level", 0, 0, 17, 2);
        aroundEdge(run, 2, square(0, 16384), three(1, 1, 2), "level", 0, 0, 18, 2);
    }

    private static void bandOfLevel0() {
        Run run = withComponent("Level 0 has the BAND 0 alone, with the same rectangle;", 1, 1);
        run.due(Run.DONE, "area", 5, 3, 30, 26);
        run.dueAround(Run.NONE, 5, Run.NONE, 3, "band", 0, 0, 0, 0, 0);
        run.dueEdges(5, 3, 30, 26, "band", 0, 0, 0, 0);
        run.due(Run.DONE, "coding", 0, 2, 6, 6);
        run.dueAround(Run.NONE, 2, Run.NONE, 3, "band", 0, 0, 0, 0, 0);
        run.dueEdges(2, 1, 8, 7, "band", 0, 0, 0, 0);
        run.dueEdges(2, 1, 8, 7, "level", 0, 0, 0);
        run.refused(Run.NONE, "band", 0, 0, 0, 2, 0);
        run.refused(Run.NONE, "band", 0, 0, 0, 3, 0);
    }

    private static void bandsAbove() {
        Run run = withComponent("a level r above has the bands 1, 2 and 3:", 1, 1);
        run.due(Run.DONE, "area", 5, 3, 30, 26);
        run.due(Run.DONE, "coding", 0, 2, 6, 6);
        run.dueAround(Run.NONE, 1, 2, 3, "band", 0, 0, 1, 1, 0);
        run.dueAround(2, 1, Run.NONE, 3, "band", 0, 0, 1, 3, 0);
        run.dueAround(Run.NONE, 2, 3, 3, "band", 0, 0, 2, 1, 0);
        run.dueAround(3, 2, Run.NONE, 3, "band", 0, 0, 2, 3, 0);
    }

    /** The edge of the bands with ox = 1 (oy = 1), or of those with 0. */
    private static void aroundBandEdge(Run run, boolean isTaken, int edge, int[] picture,
            Object[] wants, int r) {
        int[][] taken = {{1, 3}, {2, 3}};
        int[][] notTaken = {{2}, {1}};
        for (int axis = 0; axis <= 1; axis++) {
            for (int b : isTaken ? taken[axis] : notTaken[axis]) {
                aroundOneEdge(run, edge + axis, picture, wants, "band", 0, 0, r, b, edge + axis);
            }
        }
    }

    private static void rectangleOfBand() {
        Run run = withComponent("with n = N - r + 1, and ox = 1 for the bands 1 and 3, oy = 1 for 2"
                + " and 3, otherwise 0, its rectangle is the part's with ox (oy) times 2 to the"
                + " n - 1 taken off each x (y), then divided by 2 to the n upwards.", 1, 1);
        run.due(Run.DONE, "coding", 0, 2, 6, 6);
        aroundBandEdge(run, true, 0, square(1, 40), three(0, 0, 0), 1);
        aroundBandEdge(run, true, 0, square(2, 40), three(0, 0, 1), 1);
        aroundBandEdge(run, true, 0, square(6, 40), three(1, 1, 2), 1);
        aroundBandEdge(run, false, 0, square(8, 40), three(2, 2, 3), 1);
        aroundBandEdge(run, true, 2, square(0, 38), three(9, 9, 10), 1);
        aroundBandEdge(run, false, 2, square(0, 40), three(10, 10, 11), 1);
        aroundBandEdge(run, true, 0, square(1, 40), three(0, 0, 1), 2);
        aroundBandEdge(run, true, 0, square(7, 40), three(3, 3, 4), 2);
        aroundBandEdge(run, false, 0, square(8, 40), three(4, 4, 5), 2);
        aroundBandEdge(run, true, 2, square(0, 39), three(19, 19, 20), 2);
        aroundBandEdge(run, false, 2, square(0, 40), three(20, 20, 21), 2);
    }

    private static void rectangleOfBandWithMostLevels() {
        Run run = withComponent("then divided by 2 to the n upwards.", 1, 1);
        run.due(Run.DONE, "coding", 0, 32, 6, 6);
        aroundBandEdge(run, true, 0, square(1, 40), three(0, 0, 0), 1);
        aroundBandEdge(run, true, 2, square(0, 32766), three(0, 0, 0), 1);
        aroundBandEdge(run, false, 0, square(1, 40), three(0, 1, 1), 1);
        aroundBandEdge(run, true, 2, square(0, 32766), three(0, 0, 0), 17);
        aroundBandEdge(run, true, 2, square(0, 16384), three(0, 0, 1), 18);
        aroundBandEdge(run, true, 0, square(1, 40), three(0, 0, 1), 32);
    }

    private static void columnsOfPrecincts() {
        Run run = withComponent("The PRECINCTS of a level are the squares of the plane from (0, 0)"
                + " on, 2^pw wide and 2^ph high, from that column (row) which the level's x0 (y0)"
                + " is in to that which its x1 - 1 (y1 - 1) is in", 1, 1);
        aroundEdge(run, 0, square(8, 40), three(1, 1, 1), "level", 0, 0, 0, 4);
        run.due(Run.DONE, "precincts", 0, 0, 3, 3);
        aroundEdge(run, 0, square(8, 40), three(5, 4, 4), "level", 0, 0, 0, 4);
        aroundEdge(run, 2, square(8, 16), three(1, 1, 2), "level", 0, 0, 0, 4);
        run.due(Run.DONE, "precincts", 0, 0, 0, 0);
        aroundEdge(run, 0, square(8, 40), three(33, 32, 31), "level", 0, 0, 0, 4);
        aroundEdge(run, 2, square(8, 16), three(7, 8, 9), "level", 0, 0, 0, 4);
        // At level 0 of two the picture is halved before the columns are counted.
        run.due(Run.DONE, "coding", 0, 1, 6, 6);
        run.due(Run.DONE, "precincts", 0, 0, 2, 2);
        aroundEdge(run, 0, square(7, 40), three(5, 4, 4), "level", 0, 0, 0, 4);
        aroundEdge(run, 2, square(8, 16), three(1, 1, 2), "level", 0, 0, 0, 4);
        run.due(Run.DONE, "precincts", 0, 1, 1, 1);
        aroundEdge(run, 0, square(8, 40), three(17, 16, 16), "level", 0, 0, 1, 4);
        // The columns are of that width, the rows of that height.
        run.due(Run.DONE, "precincts", 0, 1, 1, 2);
        run.due(Run.DONE, "area", 0, 0, 16, 16);
        run.due(8, "level", 0, 0, 1, 4);
        run.due(4, "level", 0, 0, 1, 5);
    }

    private static void numbersOfPrecincts() {
        Run run = withComponent("numbered from 0 row by row; none if the level", 1, 1);
        run.due(Run.DONE, "area", 7, 7, 25, 12);
        run.due(Run.DONE, "precincts", 0, 0, 3, 1);
        run.dueAround(Run.NONE, 7, 8, 3, "precinct", 0, 0, 0, 0, 0);
        run.dueAround(16, 24, 7, 3, "precinct", 0, 0, 0, 3, 0);
        run.dueAround(7, 7, 8, 3, "precinct", 0, 0, 0, 3, 1);
        run.dueAround(16, 24, Run.NONE, 3, "precinct", 0, 0, 0, 11, 0);
        run.dueAround(10, 10, Run.NONE, 3, "precinct", 0, 0, 0, 11, 1);
    }

    private static void noPrecinctsOfEmptyLevel() {
        Run run = withComponent("none if the level is empty.", 4, 4);
        int[] wide = {9, 0, 12, 12};
        int[] high = {0, 9, 12, 12};
        for (int what = 4; what <= 5; what++) {
            aroundOneEdge(run, 2, wide, three(0, 0, 1), "level", 0, 0, 0, what);
            aroundOneEdge(run, 3, high, three(0, 0, 1), "level", 0, 0, 0, what);
        }
        aroundOneEdge(run, 2, wide, three(Run.NONE, Run.NONE, 3), "precinct", 0, 0, 0, 0, 0);
        aroundOneEdge(run, 3, high, three(Run.NONE, Run.NONE, 3), "precinct", 0, 0, 0, 0, 1);
        aroundOneEdge(run, 2, wide, three(Run.NONE, Run.NONE, 3), "share", 0, 0, 0, 0, 0, 0);
        aroundOneEdge(run, 3, high, three(Run.NONE, Run.NONE, 3), "share", 0, 0, 0, 0, 0, 1);
        // A part that is not empty, with a level that is.
        run.due(1, "component", 1, 1);
        run.due(Run.DONE, "coding", 1, 1, 6, 6);
        run.due(Run.DONE, "area", 1, 0, 2, 9);
        run.dueEdges(1, 0, 1, 5, "level", 0, 1, 0);
        run.due(0, "level", 0, 1, 0, 4);
        run.due(0, "level", 0, 1, 0, 5);
        run.refused(Run.NONE, "precinct", 0, 1, 0, 0, 0);
        run.due(1, "level", 0, 1, 1, 4);
        run.due(Run.DONE, "area", 1, 0, 3, 9);
        run.due(1, "level", 0, 1, 0, 4);
        run.due(1, "level", 0, 1, 0, 5);
        run.dueEdges(1, 0, 2, 5, "precinct", 0, 1, 0, 0);
    }

    private static void rectangleOfPrecinct() {
        Run run = withComponent("A precinct's rectangle is what it has of the level.", 1, 1);
        run.due(Run.DONE, "precincts", 0, 0, 3, 3);
        aroundEdge(run, 0, square(8, 40), three(7, 8, 9), "precinct", 0, 0, 0, 0, 0);
        aroundEdge(run, 0, square(8, 40), three(8, 16, 16), "precinct", 0, 0, 0, 0, 2);
        aroundEdge(run, 2, square(8, 16), three(15, 16, 16), "precinct", 0, 0, 0, 0, 2);
        aroundOneEdge(run, 2, square(8, 16), three(Run.NONE, Run.NONE, 17), "precinct", 0, 0, 0,
                1, 2);
        aroundOneEdge(run, 3, square(8, 16), three(Run.NONE, Run.NONE, 17), "precinct", 0, 0, 0,
                1, 3);
        run.due(Run.DONE, "area", 7, 7, 25, 25);
        run.dueEdges(7, 7, 8, 8, "precinct", 0, 0, 0, 0);
        run.dueEdges(8, 8, 16, 16, "precinct", 0, 0, 0, 5);
        run.dueEdges(24, 24, 25, 25, "precinct", 0, 0, 0, 15);
    }

    private static void shareOfLevel0() {
        Run run = withComponent("What it has of a band of level 0 is its SHARE there;", 1, 1);
        run.due(Run.DONE, "precincts", 0, 0, 3, 3);
        aroundEdge(run, 0, square(8, 40), three(7, 8, 9), "share", 0, 0, 0, 0, 0, 0);
        aroundEdge(run, 0, square(8, 40), three(8, 16, 16), "share", 0, 0, 0, 0, 0, 2);
        aroundEdge(run, 2, square(8, 16), three(15, 16, 16), "share", 0, 0, 0, 0, 0, 2);
        run.due(Run.DONE, "coding", 0, 1, 6, 6);
        aroundEdge(run, 0, square(15, 80), three(7, 8, 8), "share", 0, 0, 0, 0, 0, 0);
        aroundEdge(run, 0, square(15, 80), three(8, 16, 16), "share", 0, 0, 0, 0, 0, 2);
    }

    /** The band that is with x as b is with y. */
    private static int turned(int b, int axis) {
        return axis == 0 || b == 3 ? b : 3 - b;
    }

    private static final String SHARE_ABOVE = "of a band of a level above, the precincts are"
            + " 2^(pw - 1) wide and 2^(ph - 1) high in the band, and the share is what the one in"
            + " the same column and row of that plane has of the band.";

    private static Run withOneLevel(String sentence, int pw, int ph) {
        Run run = withComponent(sentence, 1, 1);
        run.due(Run.DONE, "coding", 0, 1, 6, 6);
        run.due(Run.DONE, "precincts", 0, 1, pw, ph);
        return run;
    }

    private static void shareAboveWhereTheLevelBegins() {
        Run run = withOneLevel(SHARE_ABOVE, 3, 3);
        int[] picture = square(8, 24);
        for (int axis = 0; axis <= 1; axis++) {
            // From 7 on the level has the first precinct, but the band, from 4 on, has none of it.
            int even = turned(2, axis);
            Object[][] wants = {three(0, 4, 5), three(0, 4, 4), three(0, 8, 8), three(0, 8, 8)};
            for (int what = 0; what <= 3; what++) {
                aroundOneEdge(run, axis, picture, wants[what], "share", 0, 0, 1, even, 0,
                        what ^ axis);
            }
            aroundOneEdge(run, axis, picture, three(0, 1, 1), "share", 0, 0, 1, even, 0, 4);
            aroundOneEdge(run, axis, picture, three(0, 1, 1), "share", 0, 0, 1, even, 0, 5);
            aroundOneEdge(run, axis, square(7, 24), three(3, 0, 4), "share", 0, 0, 1, even, 0,
                    axis);
        }
        for (int axis = 0; axis <= 1; axis++) {
            for (int odd : new int[] {turned(1, axis), 3}) {
                aroundOneEdge(run, axis, picture, three(3, 4, 4), "share", 0, 0, 1, odd, 0, axis);
                aroundOneEdge(run, axis, picture, three(4, 8, 8), "share", 0, 0, 1, odd, 0,
                        2 + axis);
            }
        }
    }

    private static void shareAboveWhereTheLevelEnds() {
        Run run = withOneLevel(SHARE_ABOVE, 3, 3);
        for (int axis = 0; axis <= 1; axis++) {
            int edge = 2 + axis;
            int[] picture = axis == 0 ? new int[] {8, 8, 17, 16} : new int[] {8, 8, 16, 17};
            int odd = turned(1, axis);
            int even = turned(2, axis);
            aroundOneEdge(run, edge, picture, three(Run.NONE, 0, 8), "share", 0, 0, 1, odd, 1,
                    axis);
            aroundOneEdge(run, edge, picture, three(Run.NONE, 0, 9), "share", 0, 0, 1, odd, 1,
                    edge);
            aroundOneEdge(run, edge, picture, three(Run.NONE, 0, 1), "share", 0, 0, 1, odd, 1, 4);
            aroundOneEdge(run, edge, picture, three(Run.NONE, 0, 1), "share", 0, 0, 1, odd, 1, 5);
            aroundOneEdge(run, edge, picture, three(Run.NONE, 8, 8), "share", 0, 0, 1, even, 1,
                    axis);
            aroundOneEdge(run, edge, picture, three(Run.NONE, 9, 9), "share", 0, 0, 1, even, 1,
                    edge);
        }
    }

    private static void shareOfSmallestAndLargestPrecincts() {
        Run run = withOneLevel(SHARE_ABOVE, 1, 1);
        run.due(Run.DONE, "area", 8, 8, 24, 24);
        run.dueEdges(4, 4, 5, 5, "share", 0, 0, 1, 1, 0);
        run.dueEdges(5, 4, 6, 5, "share", 0, 0, 1, 1, 1);
        run.dueEdges(4, 5, 5, 6, "share", 0, 0, 1, 3, 8);
        run.due(Run.DONE, "precincts", 0, 1, 2, 1);
        run.dueEdges(4, 4, 6, 5, "share", 0, 0, 1, 1, 0);
        run.due(Run.DONE, "precincts", 0, 1, 1, 2);
        run.dueEdges(4, 4, 5, 6, "share", 0, 0, 1, 1, 0);
        run.due(Run.DONE, "area", 0, 0, 32767, 32767);
        run.due(Run.DONE, "precincts", 0, 1, 15, 15);
        run.dueEdges(0, 0, 16383, 16384, "share", 0, 0, 1, 1, 0);
        run.due(Run.DONE, "precincts", 0, 1, 14, 14);
        run.dueEdges(0, 0, 8192, 8192, "share", 0, 0, 1, 1, 0);
        run.dueEdges(8192, 8192, 16383, 16384, "share", 0, 0, 1, 1, 3);
    }

    private static Run withSmallBlocks(String sentence) {
        Run run = withComponent(sentence, 1, 1);
        run.due(Run.DONE, "coding", 0, 0, 2, 2);
        return run;
    }

    private static void columnsOfBlocks() {
        Run run = withSmallBlocks("BLOCKS: a band's plane is laid out from (0, 0) on in rectangles"
                + " 2^w wide and 2^h high");
        aroundEdge(run, 0, square(8, 40), three(9, 8, 8), "share", 0, 0, 0, 0, 0, 4);
        aroundEdge(run, 2, square(8, 16), three(2, 2, 3), "share", 0, 0, 0, 0, 0, 4);
        aroundOneEdge(run, 0, square(8, 16), three(6, 4, 4), "part", 0, 0, 4);
        aroundOneEdge(run, 1, square(8, 16), three(6, 4, 4), "part", 0, 0, 4);
        aroundOneEdge(run, 2, square(8, 16), three(4, 4, 6), "part", 0, 0, 4);
        aroundOneEdge(run, 3, square(8, 16), three(4, 4, 6), "part", 0, 0, 4);
        run.due(Run.DONE, "area", 0, 0, 32, 32);
        run.due(Run.DONE, "coding", 0, 0, 3, 2);
        run.due(4, "share", 0, 0, 0, 0, 0, 4);
        run.due(8, "share", 0, 0, 0, 0, 0, 5);
    }

    private static void exponentsOfBlocks() {
        Run run = withComponent("where w is the lesser of bw and the exponent of a precinct's width"
                + " in the band, h likewise.", 1, 1);
        run.due(Run.DONE, "area", 0, 0, 64, 64);
        run.due(Run.DONE, "coding", 0, 1, 4, 4);
        int[][] lessers = {{0, 0, 3, 3}, {0, 0, 4, 4}, {0, 0, 5, 4}, {0, 0, 0, 0}, {0, 0, 1, 1},
            {1, 1, 4, 3}, {1, 2, 5, 4}, {1, 3, 6, 4}, {1, 1, 1, 0}, {1, 3, 2, 1}, {0, 0, 15, 4},
            {1, 2, 15, 4}};
        for (int[] one : lessers) {
            int r = one[0];
            int b = one[1];
            run.due(Run.DONE, "precincts", 0, r, one[2], 15);
            run.due(one[3], "band", 0, 0, r, b, 4);
            run.due(4, "band", 0, 0, r, b, 5);
            run.due(Run.DONE, "precincts", 0, r, 15, one[2]);
            run.due(4, "band", 0, 0, r, b, 4);
            run.due(one[3], "band", 0, 0, r, b, 5);
        }
        // Of level 1's bands, 32 by 32: blocks 8 and 16 wide as the precincts say, never 32.
        int[][] blocks = {{3, 4}, {4, 8}, {5, 16}, {6, 16}};
        for (int[] one : blocks) {
            run.due(Run.DONE, "precincts", 0, 1, one[0], 15);
            run.due(one[1], "block", 0, 0, 1, 1, 0, 0, 2);
            run.due(16, "block", 0, 0, 1, 1, 0, 0, 3);
        }
    }

    private static void numbersOfBlocks() {
        Run run = withComponent("The blocks of a share that is not empty are those that have some"
                + " of it, numbered from 0 row by row;", 1, 1);
        run.due(Run.DONE, "coding", 0, 0, 3, 2);
        run.due(Run.DONE, "area", 7, 7, 25, 12);
        run.due(8, "part", 0, 0, 4);
        run.dueAround(Run.NONE, 7, 8, 5, "block", 0, 0, 0, 0, 0, 0, 0);
        run.dueAround(16, 24, 7, 5, "block", 0, 0, 0, 0, 0, 3, 0);
        run.dueAround(7, 7, 8, 5, "block", 0, 0, 0, 0, 0, 3, 1);
        run.dueAround(16, 24, Run.NONE, 5, "block", 0, 0, 0, 0, 0, 7, 0);
        // The share of a precinct has its own numbers.
        run.due(Run.DONE, "precincts", 0, 0, 4, 15);
        run.dueAround(Run.NONE, 16, 24, 5, "block", 0, 0, 0, 0, 1, 0, 0);
        run.dueAround(16, 24, Run.NONE, 5, "block", 0, 0, 0, 0, 1, 3, 0);
    }

    private static void noBlocksOfEmptyShare() {
        Run run = withOneLevel("The blocks of a share that is not empty", 3, 3);
        for (int axis = 0; axis <= 1; axis++) {
            int even = turned(2, axis);
            aroundOneEdge(run, axis, square(7, 24), three(3, Run.NONE, 4), "block", 0, 0, 1, even,
                    0, 0, axis);
        }
        // Each band's share of each precinct is one block if it is not empty, and so is level 0:
        // two columns of precincts from 8 on, three from 7 on (band 2 has none of the first of
        // them) and from 6 on; always two rows.
        run.due(Run.DONE, "area", 8, 8, 24, 24);
        run.due(1 + 3 * 4, "part", 0, 0, 4);
        run.due(Run.DONE, "area", 7, 8, 24, 24);
        run.due(1 + 6 + 4 + 6, "part", 0, 0, 4);
        run.due(Run.DONE, "area", 6, 8, 24, 24);
        run.due(1 + 3 * 6, "part", 0, 0, 4);
    }

    private static void rectangleOfBlock() {
        Run run = withSmallBlocks("a block's rectangle is what it has of the share.");
        aroundEdge(run, 0, square(8, 40), three(7, 8, 9), "block", 0, 0, 0, 0, 0, 0, 0);
        aroundEdge(run, 0, square(8, 40), three(8, 12, 12), "block", 0, 0, 0, 0, 0, 0, 2);
        aroundEdge(run, 2, square(8, 12), three(11, 12, 12), "block", 0, 0, 0, 0, 0, 0, 2);
        aroundOneEdge(run, 2, square(8, 12), three(Run.NONE, Run.NONE, 13), "block", 0, 0, 0, 0, 0,
                1, 2);
        aroundOneEdge(run, 3, square(8, 12), three(Run.NONE, Run.NONE, 13), "block", 0, 0, 0, 0, 0,
                1, 3);
    }

    private static void dueCoefficient(Run run, int x, int y, int... due) {
        for (int what = 0; what < due.length; what++) {
            run.due(due[what], "coefficient", 0, 0, x, y, what);
        }
    }

    private static void coefficientAtLevel0() {
        Run run = withComponent("A COEFFICIENT for each sample (x, y) of a part: as long as it is"
                + " not found, at first at level N: at level 0 it is (x, y) of band 0;", 1, 1);
        run.due(Run.DONE, "area", 0, 0, 32, 32);
        for (int x = 6; x <= 8; x++) {
            for (int y = 6; y <= 8; y++) {
                dueCoefficient(run, x, y, 0, 0, x, y);
            }
        }
        run.due(Run.DONE, "coding", 0, 1, 6, 6);
        dueCoefficient(run, 1, 1, 1, 3, 0, 0);
        dueCoefficient(run, 2, 2, 0, 0, 1, 1);
        dueCoefficient(run, 3, 3, 1, 3, 1, 1);
        dueCoefficient(run, 2, 4, 0, 0, 1, 2);
    }

    private static void coefficientOfOddSamples() {
        Run run = withComponent("if x or y is odd it is in the band of this level with ox = x mod"
                + " 2, oy = y mod 2, at x / 2, y / 2 (rounded down);", 1, 1);
        run.due(Run.DONE, "area", 0, 0, 32, 32);
        run.due(Run.DONE, "coding", 0, 2, 6, 6);
        dueCoefficient(run, 7, 8, 2, 1, 3, 4);
        dueCoefficient(run, 8, 7, 2, 2, 4, 3);
        dueCoefficient(run, 7, 7, 2, 3, 3, 3);
        dueCoefficient(run, 9, 8, 2, 1, 4, 4);
        dueCoefficient(run, 8, 9, 2, 2, 4, 4);
        dueCoefficient(run, 0, 1, 2, 2, 0, 0);
        dueCoefficient(run, 31, 31, 2, 3, 15, 15);
    }

    private static void coefficientGoesOn() {
        Run run = withComponent("otherwise it goes on at the level below with x / 2, y / 2.", 1, 1);
        run.due(Run.DONE, "area", 0, 0, 32, 32);
        run.due(Run.DONE, "coding", 0, 2, 6, 6);
        dueCoefficient(run, 2, 2, 1, 3, 0, 0);
        dueCoefficient(run, 2, 4, 1, 1, 0, 1);
        dueCoefficient(run, 4, 2, 1, 2, 1, 0);
        dueCoefficient(run, 4, 4, 0, 0, 1, 1);
        dueCoefficient(run, 8, 4, 0, 0, 2, 1);
        // 8 is odd after three halvings: with two or three levels it comes to level 0 before.
        dueCoefficient(run, 8, 0, 0, 0, 2, 0);
        run.due(Run.DONE, "coding", 0, 3, 6, 6);
        dueCoefficient(run, 8, 0, 0, 0, 1, 0);
        run.due(Run.DONE, "coding", 0, 4, 6, 6);
        dueCoefficient(run, 8, 0, 1, 1, 0, 0);
        run.due(Run.DONE, "coding", 0, 32, 6, 6);
        dueCoefficient(run, 8, 0, 29, 1, 0, 0);
        dueCoefficient(run, 0, 0, 0, 0, 0, 0);
    }

    /** RefusalTest has many more of these, with all later answers. */
    private static void changesNothing() {
        Run run = withComponent("A call that throws changes nothing.", 1, 1);
        run.due(Run.DONE, "area", 3, 5, 40, 37);
        run.due(12, "tiles", 1, 2, 16, 10);
        run.refused(Run.ARGUMENT, "area", 1, 1, 1, 9);
        run.refused(Run.ARGUMENT, "tiles", 4, 2, 16, 10);
        run.refused(Run.ARGUMENT, "component", 1, 0);
        run.refused(Run.ARGUMENT, "coding", 0, 3, 2, 11);
        run.refused(Run.ARGUMENT, "precincts", 0, 0, 3, 16);
        run.due(1, "component", 1, 1);
    }

    private static void namedFirst() {
        Run run = of("Of several exceptions the one that is named first is thrown.");
        run.refused(Run.STATE, "tiles", -1, -1, 0, 32768);
        run.refused(Run.NONE, "coding", 0, 33, 11, 11);
        run.refused(Run.NONE, "precincts", 0, 33, 16, -1);
        for (int c = 0; c < 15; c++) {
            run.due(c, "component", 1, 1);
        }
        run.refused(Run.ARGUMENT, "component", 0, 256);
        run.due(15, "component", 1, 1);
        run.refused(Run.STATE, "component", 1, 1);
        run.refused(Run.ARGUMENT, "component", 0, 256);
        run.refused(Run.NONE, "coding", 16, 33, 11, 11);
        run.refused(Run.ARGUMENT, "coding", 15, 33, 11, 11);
        run.refused(Run.NONE, "precincts", 16, 1, 0, 0);
        run.refused(Run.NONE, "precincts", 15, 33, 0, 0);
        run.refused(Run.ARGUMENT, "precincts", 15, 32, 0, 0);
    }
}
