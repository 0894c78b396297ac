/** Promises 1 to 6: the calls that change the canvas. */
public final class SettingTest {
    private static final int LEAST = Integer.MIN_VALUE;
    private static final int MOST = Integer.MAX_VALUE;

    public static void main(String[] args) {
        aNewObject();
        area();
        areaKeepsComponents();
        tiles();
        tilesRefused();
        tilesAtMost();
        component();
        componentsAtMost();
        coding();
        precincts();
        Run.finish();
    }

    private static void aNewObject() {
        Run run = new Run("promise 1");
        for (int what = 0; what <= 3; what++) {
            run.due(Run.NONE, "tile", 0, what);
        }
        run.due(Run.NONE, "part", 0, 0, 0);
        run.due(Run.NONE, "level", 0, 0, 0, 0);
        run.due(Run.NONE, "band", 0, 0, 0, 0, 0);
        run.due(Run.NONE, "precinct", 0, 0, 0, 0, 0);
        run.due(Run.NONE, "share", 0, 0, 0, 0, 0, 0);
        run.due(Run.NONE, "block", 0, 0, 0, 0, 0, 0, 0);
        run.due(Run.NONE, "where", 0, 0, 0);
        run.due(Run.NONE, "coefficient", 0, 0, 0, 0, 0);
        run.due(Run.STATE, "tiles", 0, 0, 1, 1);
        run.due(Run.NONE, "coding", 0, 1, 6, 6);
        run.due(Run.NONE, "precincts", 0, 0, 1, 1);
        run.due(0, "component", 1, 1);
        // A component, but still no picture.
        run.due(Run.NONE, "part", 0, 0, 0);
        run.due(Run.NONE, "where", 0, 0, 0);
        run.due(Run.NONE, "coefficient", 0, 0, 0, 0, 0);
        run.due(Run.STATE, "tiles", 0, 0, 1, 1);
    }

    private static void area() {
        Run run = new Run("promise 2");
        run.refused(Run.ARGUMENT, "area", 3, 5, 3, 6);
        run.due(Run.DONE, "area", 3, 5, 40, 37);
        run.dueEdges(3, 5, 40, 37, "tile", 0);
        run.due(Run.NONE, "tile", 1, 0);
        int[][] wrong = {
            {4, 5, 4, 37}, {5, 5, 4, 37}, {3, 37, 40, 37}, {3, 38, 40, 37}, {-1, 5, 40, 37},
            {3, -1, 40, 37}, {3, 5, 32768, 37}, {3, 5, 40, 32768}, {LEAST, 5, 40, 37},
            {3, LEAST, 40, 37}, {3, 5, MOST, 37}, {3, 5, 40, MOST}, {LEAST, LEAST, MOST, MOST},
            {0, 0, 0, 0}, {MOST, MOST, LEAST, LEAST}, {3, 5, LEAST, 37}, {3, 5, 40, LEAST},
            {32767, 0, 32767, 9}, {-5, -5, -3, -3}};
        for (int[] one : wrong) {
            run.refused(Run.ARGUMENT, "area", one);
        }
        run.dueEdges(3, 5, 40, 37, "tile", 0);
        int[][] right = {{0, 0, 1, 1}, {0, 0, 32767, 32767}, {32766, 32766, 32767, 32767},
            {0, 32766, 1, 32767}, {7, 9, 8, 10}};
        for (int[] one : right) {
            run.due(Run.DONE, "area", one);
            run.dueEdges(one[0], one[1], one[2], one[3], "tile", 0);
            run.due(Run.NONE, "tile", 1, 0);
        }
    }

    private static void areaKeepsComponents() {
        Run run = new Run("promise 2, what stays");
        run.due(0, "component", 2, 3);
        run.due(Run.DONE, "coding", 0, 2, 3, 4);
        run.due(Run.DONE, "precincts", 0, 1, 2, 3);
        run.due(Run.DONE, "area", 0, 0, 40, 40);
        run.due(100, "tiles", 0, 0, 4, 4);
        run.due(Run.DONE, "area", 1, 1, 33, 31);
        run.dueEdges(1, 1, 33, 31, "tile", 0);
        run.due(Run.NONE, "tile", 1, 0);
        run.dueEdges(1, 1, 17, 11, "part", 0, 0);
        run.dueEdges(1, 1, 9, 6, "level", 0, 0, 1);
        run.due(3, "level", 0, 0, 1, 4);
        run.due(1, "level", 0, 0, 1, 5);
        run.due(3, "band", 0, 0, 2, 1, 4);
        run.due(4, "band", 0, 0, 2, 1, 5);
        run.due(1, "component", 1, 1);
    }

    private static void tiles() {
        Run run = new Run("promise 3");
        run.due(Run.DONE, "area", 3, 5, 40, 37);
        run.due(12, "tiles", 1, 2, 16, 10);
        run.dueEdges(3, 5, 17, 12, "tile", 0);
        run.dueEdges(33, 5, 40, 12, "tile", 2);
        run.dueEdges(3, 12, 17, 22, "tile", 3);
        run.dueEdges(17, 12, 33, 22, "tile", 4);
        run.dueEdges(33, 32, 40, 37, "tile", 11);
        run.due(Run.NONE, "tile", 12, 0);
        run.due(1, "tiles", 0, 0, 40, 37);
        run.due(2, "tiles", 0, 0, 39, 37);
        run.due(2, "tiles", 0, 0, 40, 36);
        run.due(1, "tiles", 3, 5, 37, 32);
        run.due(1, "tiles", 0, 0, 32767, 32767);
        // Just one column and one row of the first tile are the picture's.
        run.due(70, "tiles", 0, 0, 4, 6);
        run.dueEdges(3, 5, 4, 6, "tile", 0);
        run.dueEdges(4, 6, 8, 12, "tile", 11);
    }

    private static void tilesRefused() {
        Run run = new Run("promise 3, refused");
        run.refused(Run.STATE, "tiles", 0, 0, 8, 8);
        run.refused(Run.STATE, "tiles", -1, -1, 0, 0);
        run.due(0, "component", 1, 1);
        run.due(Run.DONE, "area", 3, 5, 40, 37);
        run.due(12, "tiles", 1, 2, 16, 10);
        int[][] wrong = {
            {-1, 2, 16, 10}, {1, -1, 16, 10}, {1, 2, 0, 10}, {1, 2, 16, 0}, {1, 2, 32768, 10},
            {1, 2, 16, 32768}, {4, 2, 16, 10}, {1, 6, 16, 10}, {1, 2, 2, 10}, {1, 2, 16, 3},
            {0, 0, 3, 10}, {0, 0, 10, 5}, {LEAST, 2, 16, 10}, {1, LEAST, 16, 10},
            {1, 2, LEAST, 10}, {1, 2, 16, LEAST}, {MOST, 2, 16, 10}, {1, MOST, 16, 10},
            {1, 2, MOST, 10}, {1, 2, 16, MOST}, {1, 2, -16, 10}, {1, 2, 16, -10}};
        for (int[] one : wrong) {
            run.refused(Run.ARGUMENT, "tiles", one);
        }
        run.dueEdges(33, 32, 40, 37, "tile", 11);
    }

    private static void tilesAtMost() {
        Run run = new Run("promise 3, at most");
        run.due(Run.DONE, "area", 0, 0, 32767, 32767);
        run.refused(Run.ARGUMENT, "tiles", 0, 0, 1, 1);
        run.refused(Run.ARGUMENT, "tiles", 0, 0, 128, 128);
        run.due(65280, "tiles", 0, 0, 128, 129);
        run.due(32767, "tiles", 0, 0, 1, 32767);
        run.due(65534, "tiles", 0, 0, 1, 32766);
        run.dueEdges(32766, 32766, 32767, 32767, "tile", 65533);
        run.due(Run.NONE, "tile", 65534, 0);
        run.due(Run.DONE, "area", 0, 0, 257, 255);
        run.due(65535, "tiles", 0, 0, 1, 1);
        run.dueEdges(256, 254, 257, 255, "tile", 65534);
        run.dueEdges(0, 1, 1, 2, "tile", 257);
        run.due(Run.DONE, "area", 0, 0, 256, 256);
        run.refused(Run.ARGUMENT, "tiles", 0, 0, 1, 1);
        run.due(32768, "tiles", 0, 0, 2, 1);
        run.due(Run.DONE, "area", 0, 0, 32767, 2);
        run.due(65534, "tiles", 0, 0, 1, 1);
        run.due(Run.DONE, "area", 0, 0, 32767, 3);
        run.refused(Run.ARGUMENT, "tiles", 0, 0, 1, 1);
        run.due(Run.DONE, "area", 0, 0, 3, 32767);
        run.refused(Run.ARGUMENT, "tiles", 0, 0, 1, 1);
    }

    private static void component() {
        Run run = new Run("promise 4");
        run.due(Run.DONE, "area", 0, 0, 300, 200);
        run.due(0, "component", 1, 1);
        run.due(1, "component", 255, 254);
        run.dueEdges(0, 0, 2, 1, "part", 0, 1);
        for (int c = 0; c <= 1; c++) {
            run.due(1, "level", 0, c, 0, 4);
            run.due(1, "level", 0, c, 0, 5);
            run.due(Run.NONE, "level", 0, c, 1, 0);
            run.due(6, "band", 0, c, 0, 0, 4);
            run.due(6, "band", 0, c, 0, 0, 5);
        }
        run.due(20, "part", 0, 0, 4);
        int[][] wrong = {{0, 1}, {1, 0}, {256, 1}, {1, 256}, {-1, 1}, {1, -1}, {LEAST, 1},
            {1, LEAST}, {MOST, 1}, {1, MOST}};
        for (int[] one : wrong) {
            run.refused(Run.ARGUMENT, "component", one);
        }
        run.due(2, "component", 254, 255);
        allPrecinctExponentsAtFirst();
    }

    private static void allPrecinctExponentsAtFirst() {
        Run run = new Run("promise 4, precincts");
        run.due(0, "component", 1, 1);
        run.due(Run.DONE, "area", 0, 0, 32767, 32767);
        for (int n = 0; n <= 32; n++) {
            run.due(Run.DONE, "coding", 0, n, 6, 6);
            run.due(1, "level", 0, 0, n, 4);
            run.due(1, "level", 0, 0, n, 5);
        }
    }

    private static void componentsAtMost() {
        Run run = new Run("promise 4, at most");
        run.due(Run.DONE, "area", 0, 0, 100, 100);
        for (int c = 0; c < 16; c++) {
            run.due(c, "component", c + 1, 17 - c);
        }
        run.refused(Run.STATE, "component", 1, 1);
        run.refused(Run.ARGUMENT, "component", 0, 1);
        run.refused(Run.ARGUMENT, "component", 1, 256);
        run.refused(Run.STATE, "component", 255, 255);
        run.dueEdges(0, 0, 100, 6, "part", 0, 0);
        run.dueEdges(0, 0, 7, 50, "part", 0, 15);
        run.due(Run.NONE, "part", 0, 16, 0);
        run.due(Run.NONE, "coding", 16, 1, 6, 6);
        run.due(Run.NONE, "precincts", 16, 1, 6, 6);
        run.due(Run.NONE, "where", 16, 0, 0);
        run.due(Run.NONE, "coefficient", 0, 16, 0, 0, 0);
    }

    private static void coding() {
        Run run = new Run("promise 5");
        run.due(Run.DONE, "area", 0, 0, 1000, 1000);
        run.due(0, "component", 1, 1);
        run.due(1, "component", 1, 1);
        run.due(Run.DONE, "coding", 0, 2, 3, 4);
        run.due(3, "band", 0, 0, 2, 1, 4);
        run.due(4, "band", 0, 0, 2, 1, 5);
        run.dueEdges(0, 0, 250, 250, "level", 0, 0, 0);
        run.due(Run.NONE, "level", 0, 0, 3, 0);
        run.due(Run.NONE, "level", 0, 1, 1, 0);
        run.due(6, "band", 0, 1, 0, 0, 4);
        for (int c : new int[] {-1, 2, 16, LEAST, MOST}) {
            run.refused(Run.NONE, "coding", c, 2, 3, 4);
            run.refused(Run.NONE, "coding", c, 33, 3, 4);
        }
        int[][] wrong = {
            {-1, 6, 6}, {33, 6, 6}, {2, 1, 6}, {2, 6, 1}, {2, 11, 2}, {2, 2, 11}, {2, 10, 3},
            {2, 3, 10}, {2, 7, 6}, {2, 11, 1}, {2, 1, 11}, {LEAST, 6, 6}, {MOST, 6, 6},
            {2, LEAST, 6}, {2, 6, LEAST}, {2, MOST, 6}, {2, 6, MOST}, {2, MOST, MOST},
            {2, LEAST, LEAST}, {2, 0, 0}};
        for (int[] one : wrong) {
            run.refused(Run.ARGUMENT, "coding", 0, one[0], one[1], one[2]);
        }
        int[][] right = {{0, 2, 2}, {32, 10, 2}, {1, 2, 10}, {5, 6, 6}, {5, 7, 5}, {0, 3, 9}};
        for (int[] one : right) {
            run.due(Run.DONE, "coding", 0, one[0], one[1], one[2]);
            run.due(one[1], "band", 0, 0, 0, 0, 4);
            run.due(one[2], "band", 0, 0, 0, 0, 5);
            run.due(1000, "level", 0, 0, one[0], 2);
            run.due(Run.NONE, "level", 0, 0, one[0] + 1, 2);
        }
    }

    private static void precincts() {
        Run run = new Run("promise 6");
        run.due(Run.DONE, "area", 0, 0, 1000, 1000);
        run.due(0, "component", 1, 1);
        run.due(1, "component", 1, 1);
        run.due(Run.DONE, "coding", 0, 2, 6, 6);
        run.due(Run.DONE, "precincts", 0, 2, 5, 7);
        run.due(32, "level", 0, 0, 2, 4);
        run.due(8, "level", 0, 0, 2, 5);
        run.due(1, "level", 0, 0, 1, 4);
        run.due(Run.DONE, "precincts", 0, 0, 0, 0);
        run.due(250, "level", 0, 0, 0, 4);
        run.due(250, "level", 0, 0, 0, 5);
        run.due(1, "level", 0, 1, 0, 4);
        for (int c : new int[] {-1, 2, 16, LEAST, MOST}) {
            run.refused(Run.NONE, "precincts", c, 1, 5, 5);
            run.refused(Run.NONE, "precincts", c, 1, 16, 5);
        }
        for (int r : new int[] {-1, 33, LEAST, MOST}) {
            run.refused(Run.NONE, "precincts", 0, r, 5, 5);
            run.refused(Run.NONE, "precincts", 0, r, 0, 16);
        }
        int[][] wrong = {{0, -1, 5}, {0, 5, -1}, {0, 16, 5}, {0, 5, 16}, {1, 0, 5}, {1, 5, 0},
            {1, 0, 0}, {2, 0, 1}, {2, 1, 0}, {2, 16, 1}, {2, 1, 16}, {32, 0, 1}, {32, 1, 0},
            {1, LEAST, 5}, {1, 5, LEAST}, {1, MOST, 5}, {1, 5, MOST}};
        for (int[] one : wrong) {
            run.refused(Run.ARGUMENT, "precincts", 0, one[0], one[1], one[2]);
        }
        precinctsAboveN(run);
    }

    /** They stay for when there is such a level. */
    private static void precinctsAboveN(Run run) {
        run.due(Run.DONE, "precincts", 0, 32, 1, 15);
        run.due(Run.DONE, "precincts", 0, 3, 15, 1);
        run.due(Run.NONE, "level", 0, 0, 3, 4);
        run.due(Run.DONE, "coding", 0, 3, 6, 6);
        run.due(1, "level", 0, 0, 3, 4);
        run.due(500, "level", 0, 0, 3, 5);
        run.due(16, "level", 0, 0, 2, 4);
        run.due(Run.DONE, "coding", 0, 32, 6, 6);
        run.due(500, "level", 0, 0, 32, 4);
        run.due(1, "level", 0, 0, 32, 5);
        run.due(Run.DONE, "coding", 0, 0, 6, 6);
        run.due(1000, "level", 0, 0, 0, 4);
    }
}
