/**
 * Promises 1 to 6, the calls that change the canvas, sentence by sentence; of a sentence that names
 * a boundary the boundary and its neighbours on both sides.
 */
public final class SettingTest {
    private static final int LEAST = Integer.MIN_VALUE;
    private static final int MOST = Integer.MAX_VALUE;
    /** What is a small number if bits above its low 8, 16 or 24 are lost. */
    private static final int[] FAR = {LEAST, MOST, LEAST + 8, -8, 256 + 8, 65536 + 8, -65536 + 8,
        (1 << 24) + 8};

    public static void main(String[] args) {
        noPicture();
        noComponents();
        rectangleOfPicture();
        oneTile();
        componentsStay();
        areaIsEmpty();
        areaBelow0();
        areaAbove32767();
        tilesAnew();
        tilesWithoutPicture();
        tilesBelow0();
        sizeOfTiles();
        tilesDoNotLieSo();
        tooManyTiles();
        noLevelsAtFirst();
        blocksAtFirst();
        precinctsAtFirst();
        numberOfComponent();
        steps();
        sixteenComponents();
        codingOfOneComponent();
        codingOfNoComponent();
        numberOfLevels();
        exponentsOfBlocks();
        exponentsOfBlocksTogether();
        precinctsOfOneLevel();
        precinctsOfNoComponent();
        precinctsOfNoLevel();
        precinctsAboveN();
        exponentsOfPrecincts();
        noExponent0Above();
        Run.finish("Promise 1", "Promise 2", "Promise 3", "Promise 4", "Promise 5", "Promise 6");
    }

    private static void noPicture() {
        Run run = Run.of("Promise 1", "No picture");
        run.dueAround(Run.NONE, Run.NONE, Run.NONE, 0, "tile", 0, 0);
        run.refused(Run.STATE, "tiles", 0, 0, 1, 1);
        run.due(0, "component", 1, 1);
        run.refused(Run.NONE, "part", 0, 0, 0);
        run.refused(Run.NONE, "part", 0, 0, 4);
        run.refused(Run.NONE, "level", 0, 0, 0, 0);
        run.refused(Run.NONE, "level", 0, 0, 0, 4);
        run.refused(Run.NONE, "band", 0, 0, 0, 0, 0);
        run.refused(Run.NONE, "band", 0, 0, 0, 0, 4);
        run.refused(Run.NONE, "precinct", 0, 0, 0, 0, 0);
        run.refused(Run.NONE, "share", 0, 0, 0, 0, 0, 0);
        run.refused(Run.NONE, "block", 0, 0, 0, 0, 0, 0, 0);
        run.refused(Run.NONE, "where", 0, 0, 0);
        run.refused(Run.NONE, "coefficient", 0, 0, 0, 0, 0);
        run.due(Run.DONE, "area", 0, 0, 1, 1);
        run.dueAround(Run.NONE, 0, Run.NONE, 0, "tile", 0, 0);
    }

    private static void noComponents() {
        Run run = Run.of("Promise 1", "no components.");
        run.dueAround(Run.NONE, Run.NONE, Run.NONE, 0, "coding", 0, 0, 6, 6);
        run.dueAround(Run.NONE, Run.NONE, Run.NONE, 0, "precincts", 0, 0, 6, 6);
        run.due(Run.DONE, "area", 0, 0, 9, 9);
        run.dueAround(Run.NONE, Run.NONE, Run.NONE, 1, "part", 0, 0, 0);
        run.dueAround(Run.NONE, Run.NONE, Run.NONE, 0, "where", 0, 0, 0);
        run.dueAround(Run.NONE, Run.NONE, Run.NONE, 1, "coefficient", 0, 0, 0, 0, 0);
        run.due(0, "component", 1, 1);
        run.dueAround(Run.NONE, 9, Run.NONE, 1, "part", 0, 0, 2);
    }

    private static void rectangleOfPicture() {
        Run run = Run.of("Promise 2", "The picture's rectangle;");
        int[][] pictures = {{3, 5, 40, 37}, {2, 4, 41, 38}, {4, 6, 39, 36}, {0, 0, 1, 1},
            {32766, 32766, 32767, 32767}, {0, 0, 32767, 32767}, {32766, 0, 32767, 1}};
        run.due(0, "component", 1, 1);
        for (int[] one : pictures) {
            run.due(Run.DONE, "area", one);
            run.dueEdges(one[0], one[1], one[2], one[3], "tile", 0);
            run.dueAround(Run.NONE, 0, one[0] + 1 < one[2] ? 0 : Run.NONE, 1, "where", 0,
                    one[0], one[1]);
        }
    }

    private static void oneTile() {
        Run run = Run.of("Promise 2", "there is one tile then, from (0, 0) on, x1 wide and y1"
                + " high.");
        run.due(Run.DONE, "area", 3, 5, 40, 37);
        run.dueAround(Run.NONE, 3, Run.NONE, 0, "tile", 0, 0);
        run.due(12, "tiles", 1, 2, 16, 10);
        run.due(Run.DONE, "area", 3, 5, 40, 37);
        run.dueAround(Run.NONE, 3, Run.NONE, 0, "tile", 0, 0);
        run.dueEdges(3, 5, 40, 37, "tile", 0);
        run.due(1184, "tiles", 3, 5, 1, 1);
        run.due(Run.DONE, "area", 0, 0, 1, 1);
        run.dueAround(Run.NONE, 0, Run.NONE, 0, "tile", 0, 0);
        run.dueEdges(0, 0, 1, 1, "tile", 0);
    }

    private static void componentsStay() {
        Run run = Run.of("Promise 2", "(Components stay.)");
        run.due(0, "component", 2, 3);
        run.due(Run.DONE, "coding", 0, 2, 3, 4);
        run.due(Run.DONE, "precincts", 0, 1, 2, 3);
        run.due(Run.DONE, "precincts", 0, 32, 5, 4);
        run.due(1, "component", 1, 1);
        for (int i = 0; i < 2; i++) {
            run.due(Run.DONE, "area", 1 - i, 1 - i, 33 - i, 31 - i);
            run.dueEdges(1 - i, 1 - i, i == 0 ? 17 : 16, i == 0 ? 11 : 10, "part", 0, 0);
            run.dueAround(i == 0 ? 17 : 16, 33 - i, Run.NONE, 1, "part", 0, 1, 2);
            run.due(i == 0 ? 3 : 2, "level", 0, 0, 1, 4);
            run.due(1, "level", 0, 0, 1, 5);
            run.due(3, "band", 0, 0, 2, 1, 4);
            run.due(4, "band", 0, 0, 2, 1, 5);
            run.due(1, "band", 0, 0, 1, 1, 4);
            run.due(2, "band", 0, 0, 1, 1, 5);
        }
        run.due(2, "component", 1, 1);
        run.due(Run.DONE, "area", 0, 0, 64, 192);
        run.due(Run.DONE, "coding", 0, 32, 6, 6);
        run.due(1, "level", 0, 0, 32, 4);
        run.due(4, "level", 0, 0, 32, 5);
    }

    private static void areaIsEmpty() {
        Run run = Run.of("Promise 2", "IllegalArgumentException if it is empty");
        run.dueAround(Run.ARGUMENT, Run.ARGUMENT, Run.DONE, 2, "area", 0, 0, 0, 9);
        run.dueAround(Run.ARGUMENT, Run.ARGUMENT, Run.DONE, 3, "area", 0, 0, 9, 0);
        run.dueAround(Run.DONE, Run.ARGUMENT, Run.ARGUMENT, 0, "area", 32767, 0, 32767, 9);
        run.dueAround(Run.DONE, Run.ARGUMENT, Run.ARGUMENT, 1, "area", 0, 32767, 9, 32767);
    }

    private static void areaBelow0() {
        Run run = Run.of("Promise 2", "x0 or y0 below 0");
        run.dueAround(Run.ARGUMENT, Run.DONE, Run.DONE, 0, "area", 0, 4, 9, 9);
        run.dueEdges(1, 4, 9, 9, "tile", 0);
        run.dueAround(Run.ARGUMENT, Run.DONE, Run.DONE, 1, "area", 4, 0, 9, 9);
        run.dueEdges(4, 1, 9, 9, "tile", 0);
        run.refused(Run.ARGUMENT, "area", -1, -1, 9, 9);
        for (int far : FAR) {
            run.refused(Run.ARGUMENT, "area", far, 1, 7, 7);
            run.refused(Run.ARGUMENT, "area", 1, far, 7, 7);
        }
    }

    private static void areaAbove32767() {
        Run run = Run.of("Promise 2", "x1 or y1 above 32767.");
        run.dueAround(Run.DONE, Run.DONE, Run.ARGUMENT, 2, "area", 0, 0, 32767, 9);
        run.dueEdges(0, 0, 32767, 9, "tile", 0);
        run.dueAround(Run.DONE, Run.DONE, Run.ARGUMENT, 3, "area", 0, 0, 9, 32767);
        run.dueEdges(0, 0, 9, 32767, "tile", 0);
        run.refused(Run.ARGUMENT, "area", 32767, 0, 32768, 9);
        run.refused(Run.ARGUMENT, "area", 0, 32767, 9, 32768);
        for (int far : new int[] {32768, 65535, 65536, 65545, (1 << 24) + 9, MOST, LEAST}) {
            run.refused(Run.ARGUMENT, "area", 0, 0, far, 9);
            run.refused(Run.ARGUMENT, "area", 0, 0, 9, far);
            run.refused(Run.ARGUMENT, "area", 0, 0, far, far);
        }
    }

    private static void tilesAnew() {
        Run run = Run.of("Promise 3", "Lays the tiles anew: how many there are.");
        run.due(Run.DONE, "area", 3, 5, 40, 37);
        int[][] layouts = {{1, 2, 16, 10, 12}, {3, 5, 37, 32, 1}, {3, 5, 36, 32, 2},
            {3, 5, 38, 32, 1}, {0, 0, 4, 6, 70}, {3, 5, 1, 1, 1184}, {3, 5, 37, 1, 32}};
        for (int[] one : layouts) {
            run.due(one[4], "tiles", one[0], one[1], one[2], one[3]);
            run.due(3, "tile", 0, 0);
            run.refused(Run.NONE, "tile", -1, 0);
            run.due(40, "tile", one[4] - 1, 2);
            run.due(37, "tile", one[4] - 1, 3);
            run.refused(Run.NONE, "tile", one[4], 0);
        }
    }

    private static void tilesWithoutPicture() {
        Run run = Run.of("Promise 3", "IllegalStateException if there is no picture;");
        run.refused(Run.STATE, "tiles", 0, 0, 8, 8);
        run.refused(Run.STATE, "tiles", -1, 0, 0, 32768);
        run.due(0, "component", 1, 1);
        run.refused(Run.STATE, "tiles", 0, 0, 8, 8);
        run.refused(Run.ARGUMENT, "area", 0, 0, 0, 0);
        run.refused(Run.STATE, "tiles", 0, 0, 8, 8);
        run.due(Run.DONE, "area", 0, 0, 1, 1);
        run.due(1, "tiles", 0, 0, 8, 8);
    }

    private static void tilesBelow0() {
        Run run = Run.of("Promise 3", "IllegalArgumentException if x or y is below 0");
        run.due(Run.DONE, "area", 3, 5, 40, 37);
        run.dueAround(Run.ARGUMENT, 20, 20, 0, "tiles", 0, 5, 8, 8);
        run.dueAround(Run.ARGUMENT, 25, 25, 1, "tiles", 3, 0, 8, 8);
        run.due(Run.DONE, "area", 0, 0, 40, 37);
        run.dueAround(Run.ARGUMENT, 25, Run.ARGUMENT, 0, "tiles", 0, 0, 8, 8);
        run.dueAround(Run.ARGUMENT, 25, Run.ARGUMENT, 1, "tiles", 0, 0, 8, 8);
        for (int far : FAR) {
            run.refused(Run.ARGUMENT, "tiles", far, 0, 8, 8);
            run.refused(Run.ARGUMENT, "tiles", 0, far, 8, 8);
        }
    }

    private static void sizeOfTiles() {
        Run run = Run.of("Promise 3", "width or height not 1 .. 32767");
        run.due(Run.DONE, "area", 3, 5, 40, 37);
        run.dueAround(Run.ARGUMENT, 37, 19, 2, "tiles", 3, 5, 1, 32);
        run.dueAround(Run.ARGUMENT, 32, 16, 3, "tiles", 3, 5, 37, 1);
        run.dueAround(1, 1, Run.ARGUMENT, 2, "tiles", 3, 5, 32767, 32);
        run.dueAround(1, 1, Run.ARGUMENT, 3, "tiles", 3, 5, 37, 32767);
        for (int far : new int[] {LEAST, MOST, LEAST + 37, -37, 65536 + 37, (1 << 24) + 37}) {
            run.refused(Run.ARGUMENT, "tiles", 3, 5, far, 32);
            run.refused(Run.ARGUMENT, "tiles", 3, 5, 37, far);
            // What reaches beyond all int together with its start.
            run.refused(Run.ARGUMENT, "tiles", MOST, 5, far, 32);
            run.refused(Run.ARGUMENT, "tiles", 3, MOST, 37, far);
        }
        run.due(Run.DONE, "area", 0, 0, 32767, 32767);
        run.dueAround(2, 1, Run.ARGUMENT, 2, "tiles", 0, 0, 32767, 32767);
        run.dueAround(2, 1, Run.ARGUMENT, 3, "tiles", 0, 0, 32767, 32767);
        // The last of them begins within the picture's last column and row, and ends far behind.
        run.due(Run.DONE, "area", 32766, 32766, 32767, 32767);
        run.dueAround(1, 1, Run.ARGUMENT, 2, "tiles", 32766, 32766, 32767, 32767);
        run.dueAround(1, 1, Run.ARGUMENT, 3, "tiles", 32766, 32766, 32767, 32767);
        run.dueEdges(32766, 32766, 32767, 32767, "tile", 0);
    }

    private static void tilesDoNotLieSo() {
        Run run = Run.of("Promise 3", "they do not lie so");
        run.due(Run.DONE, "area", 3, 5, 40, 37);
        run.dueAround(20, 20, Run.ARGUMENT, 0, "tiles", 3, 5, 8, 8);
        run.dueAround(25, 20, Run.ARGUMENT, 1, "tiles", 3, 5, 8, 8);
        run.dueAround(Run.ARGUMENT, Run.ARGUMENT, 40, 2, "tiles", 0, 5, 3, 8);
        run.dueAround(Run.ARGUMENT, Run.ARGUMENT, 35, 3, "tiles", 3, 0, 8, 5);
        run.dueAround(Run.ARGUMENT, Run.ARGUMENT, 52, 0, "tiles", 0, 5, 3, 8);
        run.dueAround(Run.ARGUMENT, Run.ARGUMENT, 60, 1, "tiles", 3, 2, 8, 3);
        run.due(Run.DONE, "area", 32766, 32766, 32767, 32767);
        run.dueAround(Run.ARGUMENT, Run.ARGUMENT, 1, 2, "tiles", 0, 0, 32766, 32767);
        run.dueAround(Run.ARGUMENT, Run.ARGUMENT, 1, 3, "tiles", 0, 0, 32767, 32766);
    }

    private static void tooManyTiles() {
        Run run = Run.of("Promise 3", "or there would be more than 65535.");
        for (int length = 21844; length <= 21846; length++) {
            Object due = length > 21845 ? Run.ARGUMENT : length * 3;
            run.due(Run.DONE, "area", 0, 0, length, 3);
            run.dueOrRefused(due, "tiles", 0, 0, 1, 1);
            run.due(Run.DONE, "area", 0, 0, 3, length);
            run.dueOrRefused(due, "tiles", 0, 0, 1, 1);
            run.due(Run.DONE, "area", 7, 9, 7 + length, 12);
            run.dueOrRefused(due, "tiles", 7, 9, 1, 1);
        }
        int[][] pictures = {{32767, 2, 65534}, {257, 255, 65535}, {256, 256, 0}, {16384, 4, 0},
            {4, 16384, 0}, {255, 258, 0}, {32767, 3, 0}, {32767, 32767, 0}, {2, 32767, 65534},
            {13107, 5, 65535}, {13108, 5, 0}};
        for (int[] one : pictures) {
            run.due(Run.DONE, "area", 0, 0, one[0], one[1]);
            run.dueOrRefused(one[2] == 0 ? Run.ARGUMENT : one[2], "tiles", 0, 0, 1, 1);
        }
        run.due(Run.DONE, "area", 0, 0, 32767, 32767);
        run.dueAround(Run.ARGUMENT, Run.ARGUMENT, 65280, 2, "tiles", 0, 0, 128, 128);
        run.dueAround(Run.ARGUMENT, Run.ARGUMENT, 65280, 3, "tiles", 0, 0, 128, 128);
        run.due(Run.DONE, "area", 0, 0, 257, 255);
        run.due(65535, "tiles", 0, 0, 1, 1);
        run.dueAround(255, 256, Run.NONE, 0, "tile", 65534, 0);
        run.dueAround(256, 257, Run.NONE, 0, "tile", 65534, 2);
    }

    private static void noLevelsAtFirst() {
        Run run = Run.of("Promise 4", "A new component, with no levels (N is 0)");
        run.due(Run.DONE, "area", 5, 3, 30, 26);
        run.due(0, "component", 1, 1);
        run.dueAround(Run.NONE, 5, Run.NONE, 2, "level", 0, 0, 0, 0);
        run.dueAround(Run.NONE, 26, Run.NONE, 2, "level", 0, 0, 0, 3);
        run.dueAround(Run.NONE, Run.NONE, Run.NONE, 2, "band", 0, 0, 1, 1, 0);
    }

    private static void blocksAtFirst() {
        Run run = Run.of("Promise 4", "blocks of 64 by 64 (both exponents 6)");
        run.due(0, "component", 1, 1);
        for (int length = 63; length <= 65; length++) {
            run.due(Run.DONE, "area", 0, 0, length, 9);
            run.due(length > 64 ? 2 : 1, "share", 0, 0, 0, 0, 0, 4);
            run.due(length > 64 ? 2 : 1, "part", 0, 0, 4);
            run.due(Run.DONE, "area", 0, 0, 9, length);
            run.due(length > 64 ? 2 : 1, "share", 0, 0, 0, 0, 0, 5);
            run.due(length > 64 ? 2 : 1, "part", 0, 0, 4);
        }
        run.due(6, "band", 0, 0, 0, 0, 4);
        run.due(6, "band", 0, 0, 0, 0, 5);
    }

    /** Precincts of 2^15 have all of the largest picture; those of 2^14 would not. */
    private static void precinctsAtFirst() {
        Run run = Run.of("Promise 4", "all exponents of precincts 15");
        run.due(0, "component", 1, 1);
        run.due(Run.DONE, "area", 0, 0, 32767, 32767);
        for (int n = 0; n <= 32; n++) {
            run.due(Run.DONE, "coding", 0, n, 6, 6);
            run.due(1, "level", 0, 0, n, 4);
            run.due(1, "level", 0, 0, n, 5);
            run.dueEdges(0, 0, 32767, 32767, "precinct", 0, 0, n, 0);
        }
        for (int length = 16384; length <= 16386; length++) {
            run.due(Run.DONE, "area", 0, 0, length, length);
            run.due(1, "level", 0, 0, 32, 4);
        }
    }

    private static void numberOfComponent() {
        Run run = Run.of("Promise 4", "its number.");
        run.due(Run.DONE, "area", 0, 0, 60, 60);
        for (int c = 0; c < 3; c++) {
            run.refused(Run.ARGUMENT, "component", 0, 1);
            run.due(c, "component", c + 1, 1);
            run.dueAround(c == 0 ? Run.NONE : 60 / c, 60 / (c + 1), Run.NONE, 1, "part", 0, c, 2);
        }
    }

    private static void steps() {
        Run run = Run.of("Promise 4", "IllegalArgumentException if a step is not 1 .. 255;");
        run.due(Run.DONE, "area", 0, 0, 510, 510);
        run.dueAround(Run.ARGUMENT, 0, 1, 0, "component", 1, 5);
        run.dueAround(Run.ARGUMENT, 2, 3, 1, "component", 5, 1);
        run.dueAround(4, 5, Run.ARGUMENT, 0, "component", 255, 5);
        run.dueAround(6, 7, Run.ARGUMENT, 1, "component", 5, 255);
        int[][] ends = {{510, 102}, {255, 102}, {102, 510}, {102, 255}, {3, 102}, {2, 102},
            {102, 3}, {102, 2}};
        for (int c = 0; c < ends.length; c++) {
            run.due(ends[c][0], "part", 0, c, 2);
            run.due(ends[c][1], "part", 0, c, 3);
        }
        for (int far : FAR) {
            run.refused(Run.ARGUMENT, "component", far, 5);
            run.refused(Run.ARGUMENT, "component", 5, far);
        }
        run.refused(Run.ARGUMENT, "component", 256, 256);
        run.refused(Run.ARGUMENT, "component", 257, 5);
        run.refused(Run.ARGUMENT, "component", 0, 0);
        run.due(8, "component", 1, 1);
    }

    private static void sixteenComponents() {
        Run run = Run.of("Promise 4", "IllegalStateException if there are 16.");
        run.due(Run.DONE, "area", 0, 0, 60, 60);
        for (int c = 0; c < 16; c++) {
            run.refused(Run.ARGUMENT, "component", 0, 0);
            run.due(c, "component", 1, 1 + c);
        }
        run.refused(Run.STATE, "component", 1, 1);
        run.refused(Run.STATE, "component", 255, 255);
        run.refused(Run.ARGUMENT, "component", 0, 1);
        run.refused(Run.ARGUMENT, "component", 1, 256);
        run.dueAround(4, 4, Run.NONE, 1, "part", 0, 15, 3);
        run.due(Run.DONE, "area", 0, 0, 30, 30);
        run.refused(Run.STATE, "component", 1, 1);
    }

    private static Run withComponents(String promise, String sentence) {
        Run run = Run.of(promise, sentence);
        run.due(Run.DONE, "area", 0, 0, 1024, 1024);
        run.due(0, "component", 1, 1);
        run.due(1, "component", 1, 1);
        run.due(2, "component", 1, 1);
        return run;
    }

    private static void codingOfOneComponent() {
        Run run = withComponents("Promise 5", "A component's N, and the exponents of its blocks.");
        run.due(Run.DONE, "coding", 1, 2, 3, 4);
        run.dueAround(6, 3, 6, 1, "band", 0, 1, 0, 0, 4);
        run.dueAround(6, 4, 6, 1, "band", 0, 1, 0, 0, 5);
        run.dueAround(512, 1024, Run.NONE, 2, "level", 0, 1, 2, 2);
        run.refused(Run.NONE, "level", 0, 0, 1, 2);
        run.refused(Run.NONE, "level", 0, 2, 1, 2);
        run.due(Run.DONE, "coding", 1, 1, 5, 6);
        run.dueAround(6, 5, 6, 1, "band", 0, 1, 0, 0, 4);
        run.dueAround(512, 1024, Run.NONE, 2, "level", 0, 1, 1, 2);
    }

    private static void codingOfNoComponent() {
        Run run = withComponents("Promise 5", "NoSuchElementException if there is no such"
                + " component;");
        run.dueAround(Run.NONE, Run.DONE, Run.DONE, 0, "coding", 0, 2, 3, 4);
        run.dueAround(Run.DONE, Run.DONE, Run.NONE, 0, "coding", 2, 3, 4, 3);
        run.dueAround(Run.DONE, Run.NONE, Run.NONE, 0, "coding", 3, 1, 5, 5);
        for (int far : FAR) {
            run.refused(Run.NONE, "coding", far, 2, 3, 4);
        }
        run.refused(Run.NONE, "coding", -1, -1, 3, 4);
        run.refused(Run.NONE, "coding", 3, 2, 11, 4);
        run.refused(Run.NONE, "coding", 3, 2, 7, 6);
        run.refused(Run.ARGUMENT, "coding", 2, 2, 7, 6);
        for (int c = 3; c < 16; c++) {
            run.due(c, "component", 1, 1);
        }
        run.dueAround(Run.DONE, Run.DONE, Run.NONE, 0, "coding", 15, 3, 4, 3);
    }

    private static void numberOfLevels() {
        Run run = withComponents("Promise 5", "IllegalArgumentException if N is not 0 .. 32");
        run.due(Run.DONE, "coding", 0, 2, 3, 4);
        run.dueAround(Run.ARGUMENT, Run.DONE, Run.DONE, 1, "coding", 0, 0, 3, 4);
        run.dueAround(512, 1024, Run.NONE, 2, "level", 0, 0, 1, 2);
        run.dueAround(Run.DONE, Run.DONE, Run.ARGUMENT, 1, "coding", 0, 32, 3, 4);
        run.dueAround(512, 1024, Run.NONE, 2, "level", 0, 0, 32, 2);
        for (int far : new int[] {LEAST, MOST, LEAST + 2, -8, 33, 64, 258, 65538, (1 << 24) + 2}) {
            run.refused(Run.ARGUMENT, "coding", 0, far, 3, 4);
        }
    }

    private static void dueExponents(Run run, int w, int h) {
        run.due(w, "band", 0, 0, 0, 0, 4);
        run.due(h, "band", 0, 0, 0, 0, 5);
    }

    private static void exponentsOfBlocks() {
        Run run = withComponents("Promise 5", "an exponent not 2 .. 10");
        run.dueAround(Run.ARGUMENT, Run.DONE, Run.DONE, 2, "coding", 0, 1, 2, 4);
        dueExponents(run, 3, 4);
        run.dueAround(Run.ARGUMENT, Run.DONE, Run.DONE, 3, "coding", 0, 1, 4, 2);
        dueExponents(run, 4, 3);
        run.dueAround(Run.DONE, Run.DONE, Run.ARGUMENT, 2, "coding", 0, 1, 10, 2);
        dueExponents(run, 10, 2);
        run.dueAround(Run.DONE, Run.DONE, Run.ARGUMENT, 3, "coding", 0, 1, 2, 10);
        dueExponents(run, 2, 10);
        // Not above 12 together.
        int[][] wrong = {{1, 11}, {11, 1}, {1, 1}, {0, 2}, {2, 0}, {0, 12}, {12, 0}, {-1, 13},
            {LEAST, LEAST}, {MOST, MOST}, {MOST, LEAST}};
        for (int[] one : wrong) {
            run.refused(Run.ARGUMENT, "coding", 0, 1, one[0], one[1]);
        }
        for (int far : new int[] {LEAST, MOST, LEAST + 4, -4, 260, 65540, (1 << 24) + 4}) {
            run.refused(Run.ARGUMENT, "coding", 0, 1, far, 4);
            run.refused(Run.ARGUMENT, "coding", 0, 1, 4, far);
        }
    }

    private static void exponentsOfBlocksTogether() {
        Run run = withComponents("Promise 5", "or both together above 12.");
        for (int bw = 3; bw <= 9; bw++) {
            int bh = 12 - bw;
            run.dueAround(Run.DONE, Run.DONE, Run.ARGUMENT, 2, "coding", 0, 1, bw, bh);
            dueExponents(run, bw, bh);
            run.dueAround(Run.DONE, Run.DONE, Run.ARGUMENT, 3, "coding", 0, 1, bw, bh);
            dueExponents(run, bw, bh);
        }
        run.refused(Run.ARGUMENT, "coding", 0, 1, 10, 10);
        run.refused(Run.ARGUMENT, "coding", 0, 1, 10, 3);
        run.refused(Run.ARGUMENT, "coding", 0, 1, 3, 10);
    }

    private static void precinctsOfOneLevel() {
        Run run = withComponents("Promise 6", "The exponents of a component's precincts at level"
                + " r.");
        for (int c = 0; c <= 2; c++) {
            run.due(Run.DONE, "coding", c, 2, 6, 6);
        }
        run.due(Run.DONE, "precincts", 1, 1, 7, 8);
        run.dueAround(1, 4, 1, 1, "level", 0, 1, 1, 4);
        run.dueAround(1, 2, 1, 1, "level", 0, 1, 1, 5);
        run.dueAround(1, 4, 1, 2, "level", 0, 1, 1, 4);
        run.dueAround(1, 2, 1, 2, "level", 0, 1, 1, 5);
        run.due(Run.DONE, "precincts", 1, 1, 8, 7);
        run.due(2, "level", 0, 1, 1, 4);
        run.due(4, "level", 0, 1, 1, 5);
    }

    private static void precinctsOfNoComponent() {
        Run run = withComponents("Promise 6", "NoSuchElementException if there is no such"
                + " component");
        run.dueAround(Run.NONE, Run.DONE, Run.DONE, 0, "precincts", 0, 0, 5, 4);
        run.dueAround(Run.DONE, Run.DONE, Run.NONE, 0, "precincts", 2, 0, 4, 5);
        run.dueAround(Run.DONE, Run.NONE, Run.NONE, 0, "precincts", 3, 0, 6, 5);
        for (int far : FAR) {
            run.refused(Run.NONE, "precincts", far, 1, 5, 5);
        }
        run.refused(Run.NONE, "precincts", 3, 0, 16, 5);
        run.refused(Run.NONE, "precincts", -1, 1, 0, 0);
    }

    private static void precinctsOfNoLevel() {
        Run run = withComponents("Promise 6", "or r is not 0 .. 32");
        run.dueAround(Run.NONE, Run.DONE, Run.DONE, 1, "precincts", 0, 0, 9, 8);
        run.due(2, "level", 0, 0, 0, 4);
        run.due(4, "level", 0, 0, 0, 5);
        run.dueAround(Run.DONE, Run.DONE, Run.NONE, 1, "precincts", 0, 32, 8, 9);
        for (int n : new int[] {31, 32}) {
            run.due(Run.DONE, "coding", 0, n, 6, 6);
            run.due(4, "level", 0, 0, n, 4);
            run.due(2, "level", 0, 0, n, 5);
        }
        for (int far : new int[] {LEAST, MOST, LEAST + 2, -8, 64, 258, 65538, (1 << 24) + 2}) {
            run.refused(Run.NONE, "precincts", 0, far, 5, 5);
        }
        // No such level is told before a wrong exponent is.
        run.refused(Run.NONE, "precincts", 0, -1, 16, 5);
        run.refused(Run.NONE, "precincts", 0, 33, 0, 5);
    }

    private static void precinctsAboveN() {
        Run run = withComponents("Promise 6", "(it may be above N);");
        run.due(Run.DONE, "coding", 0, 2, 6, 6);
        run.dueAround(Run.DONE, Run.DONE, Run.DONE, 1, "precincts", 0, 2, 9, 8);
        run.refused(Run.ARGUMENT, "precincts", 0, 3, 0, 8);
        run.refused(Run.ARGUMENT, "precincts", 0, 3, 8, 16);
        run.dueAround(1, 2, Run.NONE, 2, "level", 0, 0, 2, 4);
        run.due(Run.DONE, "coding", 0, 3, 6, 6);
        run.dueAround(1, 2, Run.NONE, 2, "level", 0, 0, 3, 4);
        run.dueAround(2, 4, Run.NONE, 2, "level", 0, 0, 3, 5);
        run.due(Run.DONE, "coding", 0, 4, 6, 6);
        run.dueAround(1, 1, Run.NONE, 2, "level", 0, 0, 4, 4);
    }

    private static void exponentsOfPrecincts() {
        Run run = withComponents("Promise 6", "IllegalArgumentException if one is not 0 .. 15");
        run.due(Run.DONE, "coding", 0, 1, 6, 6);
        run.dueAround(Run.ARGUMENT, Run.DONE, Run.DONE, 2, "precincts", 0, 0, 0, 5);
        run.due(256, "level", 0, 0, 0, 4);
        run.due(16, "level", 0, 0, 0, 5);
        run.dueAround(Run.ARGUMENT, Run.DONE, Run.DONE, 3, "precincts", 0, 0, 5, 0);
        run.due(16, "level", 0, 0, 0, 4);
        run.due(256, "level", 0, 0, 0, 5);
        for (int r = 0; r <= 1; r++) {
            run.dueAround(Run.DONE, Run.DONE, Run.ARGUMENT, 2, "precincts", 0, r, 15, 5);
            run.due(1, "level", 0, 0, r, 4);
            run.dueAround(Run.DONE, Run.DONE, Run.ARGUMENT, 3, "precincts", 0, r, 5, 15);
            run.due(1, "level", 0, 0, r, 5);
            for (int far : new int[] {LEAST, MOST, LEAST + 5, -5, 261, 65541, (1 << 24) + 5}) {
                run.refused(Run.ARGUMENT, "precincts", 0, r, far, 5);
                run.refused(Run.ARGUMENT, "precincts", 0, r, 5, far);
            }
        }
        run.due(Run.DONE, "precincts", 0, 0, 0, 0);
        run.due(512, "level", 0, 0, 0, 4);
        run.due(512, "level", 0, 0, 0, 5);
    }

    private static void noExponent0Above() {
        Run run = withComponents("Promise 6", "or 0 at a level above 0.");
        run.due(Run.DONE, "coding", 0, 2, 6, 6);
        run.dueAround(Run.DONE, Run.ARGUMENT, Run.ARGUMENT, 1, "precincts", 0, 1, 0, 3);
        run.dueAround(Run.DONE, Run.ARGUMENT, Run.ARGUMENT, 1, "precincts", 0, 1, 3, 0);
        run.dueAround(Run.DONE, Run.ARGUMENT, Run.ARGUMENT, 1, "precincts", 0, 1, 0, 0);
        for (int r : new int[] {1, 2, 3, 32}) {
            run.dueAround(Run.ARGUMENT, Run.ARGUMENT, Run.DONE, 2, "precincts", 0, r, 0, 3);
            run.dueAround(Run.ARGUMENT, Run.ARGUMENT, Run.DONE, 3, "precincts", 0, r, 3, 0);
        }
        run.due(128, "level", 0, 0, 2, 4);
        run.due(512, "level", 0, 0, 2, 5);
        run.due(Run.DONE, "precincts", 0, 2, 1, 1);
        run.due(512, "level", 0, 0, 2, 4);
    }
}
