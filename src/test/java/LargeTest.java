import java.util.Random;

/** The largest pictures, steps, levels and numbers, where the model would be too slow. */
public final class LargeTest {
    private static final int MOST = 32767;

    public static void main(String[] args) {
        smallestPrecincts();
        smallestPrecinctsAboveLevel0();
        mostLevels();
        mostLevelsBesideTheOrigin();
        for (int seed = 0; seed < 200; seed++) {
            followSamples(seed);
        }
        Run.finish();
    }

    private static Run setUp(String title) {
        Run run = new Run(title);
        run.due(Run.DONE, "area", 0, 0, MOST, MOST);
        run.due(0, "component", 1, 1);
        return run;
    }

    /** A precinct and a block for each sample. */
    private static void smallestPrecincts() {
        Run run = setUp("smallest precincts");
        run.due(Run.DONE, "precincts", 0, 0, 0, 0);
        int last = MOST * MOST - 1;
        run.due(MOST * MOST, "part", 0, 0, 4);
        run.due(MOST, "level", 0, 0, 0, 4);
        run.due(MOST, "level", 0, 0, 0, 5);
        run.dueEdges(MOST - 1, MOST - 1, MOST, MOST, "precinct", 0, 0, 0, last);
        run.dueEdges(MOST - 1, MOST - 1, MOST, MOST, "share", 0, 0, 0, 0, last);
        run.dueEdges(MOST - 1, MOST - 1, MOST, MOST, "block", 0, 0, 0, 0, last, 0);
        run.refused(Run.NONE, "precinct", 0, 0, 0, last + 1, 0);
        run.refused(Run.NONE, "block", 0, 0, 0, 0, last, 1, 0);
        run.due(last, "coefficient", 0, 0, MOST - 1, MOST - 1, 4);
        run.due(0, "coefficient", 0, 0, MOST - 1, MOST - 1, 5);
    }

    private static void smallestPrecinctsAboveLevel0() {
        Run run = setUp("smallest precincts above level 0");
        run.due(Run.DONE, "coding", 0, 1, 2, 2);
        run.due(Run.DONE, "precincts", 0, 1, 1, 1);
        // Of level 0 blocks of 4 by 4; of the bands 1, 2 and 3 a block for each coefficient.
        run.due(4096 * 4096 + MOST * MOST - 16384 * 16384, "part", 0, 0, 4);
        run.dueEdges(0, 0, 16383, 16384, "band", 0, 0, 1, 1);
        int last = 16384 * 16384 - 1;
        run.dueEdges(MOST - 1, MOST - 1, MOST, MOST, "precinct", 0, 0, 1, last);
        run.dueEdges(0, 0, 0, 0, "share", 0, 0, 1, 1, last);
        run.dueEdges(16382, 16383, 16383, 16384, "share", 0, 0, 1, 1, last - 1);
        run.due(last - 1, "coefficient", 0, 0, MOST - 2, MOST - 1, 4);
    }

    private static void mostLevels() {
        Run run = setUp("most levels");
        run.due(Run.DONE, "coding", 0, 32, 10, 2);
        for (int r = 0; r <= 17; r++) {
            run.dueEdges(0, 0, 1, 1, "level", 0, 0, r);
        }
        run.dueEdges(0, 0, 2, 2, "level", 0, 0, 18);
        run.dueEdges(0, 0, MOST, MOST, "level", 0, 0, 32);
        run.dueEdges(0, 0, 1, 1, "band", 0, 0, 0, 0);
        run.dueEdges(0, 0, 0, 1, "band", 0, 0, 1, 1);
        run.dueEdges(0, 0, 1, 0, "band", 0, 0, 1, 2);
        run.dueEdges(0, 0, 0, 0, "band", 0, 0, 17, 3);
        run.dueEdges(0, 0, 1, 1, "band", 0, 0, 18, 3);
        for (int what = 0; what <= 5; what++) {
            run.due(0, "coefficient", 0, 0, 0, 0, what);
        }
        // 16384 is odd after fourteen halvings.
        run.due(18, "coefficient", 0, 0, 16384, 0, 0);
        run.due(1, "coefficient", 0, 0, 16384, 0, 1);
        run.due(2, "coefficient", 0, 0, 0, 16384, 1);
        run.due(3, "coefficient", 0, 0, 16384, 16384, 1);
    }

    private static void mostLevelsBesideTheOrigin() {
        Run run = setUp("most levels beside the origin");
        run.due(Run.DONE, "area", 1, 1, MOST, MOST);
        run.due(Run.DONE, "coding", 0, 32, 6, 6);
        run.dueEdges(1, 1, 1, 1, "level", 0, 0, 0);
        run.due(0, "level", 0, 0, 0, 4);
        run.due(0, "level", 0, 0, 0, 5);
        run.refused(Run.NONE, "precinct", 0, 0, 0, 0, 0);
        run.dueEdges(0, 1, 0, 1, "band", 0, 0, 1, 1);
        run.dueEdges(0, 0, 1, 1, "band", 0, 0, 18, 3);
    }

    /** From a sample to its tile, part, band, share and block: each must have it. */
    private static void followSamples(int seed) {
        Random random = new Random(seed);
        Run run = new Run("samples, seed " + seed);
        int x0 = random.nextInt(MOST - 1);
        int y0 = random.nextInt(MOST - 1);
        int x1 = x0 + 1 + random.nextInt(MOST - x0);
        int y1 = y0 + 1 + random.nextInt(MOST - y0);
        run.due(Run.DONE, "area", x0, y0, x1, y1);
        int x = random.nextInt(x0 + 1);
        int y = random.nextInt(y0 + 1);
        // Refused if there are too many: then there is one tile still.
        run.answer("tiles", x, y, x0 - x + 1 + random.nextInt(300),
                y0 - y + 1 + random.nextInt(300));
        int dx = 1 + random.nextInt(random.nextBoolean() ? 2 : 255);
        int dy = 1 + random.nextInt(random.nextBoolean() ? 2 : 255);
        run.due(0, "component", dx, dy);
        int levels = random.nextInt(33);
        int bw = 2 + random.nextInt(9);
        run.due(Run.DONE, "coding", 0, levels, bw, 2 + random.nextInt(11 - bw));
        for (int r = 0; r <= levels; r++) {
            int least = r == 0 ? 0 : 1;
            run.due(Run.DONE, "precincts", 0, r, least + random.nextInt(16 - least),
                    least + random.nextInt(16 - least));
        }
        for (int i = 0; i < 20; i++) {
            int sampleX = (x0 + random.nextInt(x1 - x0)) / dx << random.nextInt(5);
            int sampleY = (y0 + random.nextInt(y1 - y0)) / dy << random.nextInt(5);
            boolean inside = sampleX * dx >= x0 && sampleX * dx < x1 && sampleY * dy >= y0
                    && sampleY * dy < y1;
            if (inside) {
                follow(run, levels, sampleX, sampleY);
            } else {
                run.due(Run.NONE, "where", 0, sampleX, sampleY);
            }
        }
    }

    private static void follow(Run run, int levels, int x, int y) {
        int t = run.number("where", 0, x, y);
        mustHave(run, x, y, "part", t, 0);
        int[] c = new int[6];
        for (int what = 0; what < c.length; what++) {
            c[what] = run.number("coefficient", t, 0, x, y, what);
        }
        int r = c[0];
        int b = c[1];
        int p = c[4];
        mustHave(run, c[2], c[3], "band", t, 0, r, b);
        mustHave(run, c[2], c[3], "share", t, 0, r, b, p);
        mustHave(run, c[2], c[3], "block", t, 0, r, b, p, c[5]);
        int halved = r == 0 ? 0 : 1;
        int levelX = (c[2] << halved) + (b & 1);
        int levelY = (c[3] << halved) + (b >> 1);
        mustHave(run, levelX, levelY, "level", t, 0, r);
        mustHave(run, levelX, levelY, "precinct", t, 0, r, p);
        int goneOn = levels - r;
        boolean sameSample = (long) levelX << goneOn == x && (long) levelY << goneOn == y;
        if (!sameSample) {
            run.report("coefficient", new int[] {t, 0, x, y}, "is another sample's");
        }
    }

    private static void mustHave(Run run, int x, int y, String name, int... args) {
        int[] edges = new int[4];
        for (int what = 0; what < edges.length; what++) {
            edges[what] = run.number(name, Run.with(args, what));
        }
        if (x < edges[0] || x >= edges[2] || y < edges[1] || y >= edges[3]) {
            run.report(name, args, "has not (" + x + ", " + y + ")");
        }
    }
}
