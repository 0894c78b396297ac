import java.util.NoSuchElementException;

/**
 * The canvas of a picture that is coded by wavelets in layers: how its grid is divided into tiles,
 * these into the parts of components, their levels, bands, precincts and blocks; and where each
 * sample's coefficient lies.
 */
public final class PictureCanvas {
    private static final int MOST_EDGE = 32767;
    private static final int MOST_TILES = 65535;
    private static final int MOST_COMPONENTS = 16;
    private static final int MOST_STEP = 255;
    private static final int MOST_LEVEL = 32;
    private static final int LEAST_BLOCK_EXPONENT = 2;
    private static final int MOST_BLOCK_EXPONENT = 10;
    private static final int MOST_BLOCK_EXPONENTS_TOGETHER = 12;
    private static final int MOST_PRECINCT_EXPONENT = 15;
    private static final int FIRST_BLOCK_EXPONENT = 6;

    /** The last question that is about an edge of a rectangle: 0 .. 3 are x0, y0, x1, y1. */
    private static final int LAST_EDGE = 3;

    /** Empty as long as there is no picture. */
    private final Box picture = new Box();
    private final Grid tileGrid = new Grid();
    private final Component[] components = new Component[MOST_COMPONENTS];
    private int componentCount = 0;

    // What the present call looks at: made once and filled anew by each call, so that asking
    // makes no objects. Nothing here is kept from one call to the next.
    private final Box tileBox = new Box();
    private final Box partBox = new Box();
    private final Box levelBox = new Box();
    private final Box bandBox = new Box();
    private final Box cellBox = new Box();
    private final Box shareBox = new Box();
    private final Grid precinctGrid = new Grid();
    private final Grid blockGrid = new Grid();

    public PictureCanvas() {
    }

    public void area(int x0, int y0, int x1, int y1) throws IllegalArgumentException {
        if (x0 < 0 || y0 < 0 || x1 > MOST_EDGE || y1 > MOST_EDGE) {
            throw new IllegalArgumentException("the picture leaves the grid");
        }
        if (x0 >= x1 || y0 >= y1) {
            throw new IllegalArgumentException("the picture is empty");
        }
        picture.set(x0, y0, x1, y1);
        tileGrid.lay(0, 0, x1, y1, picture);
    }

    public int tiles(int x, int y, int width, int height)
            throws IllegalStateException, IllegalArgumentException {
        if (picture.isEmpty()) {
            throw new IllegalStateException("there is no picture");
        }
        if (!isWithin(width, 1, MOST_EDGE) || !isWithin(height, 1, MOST_EDGE)) {
            throw new IllegalArgumentException("no such size of a tile");
        }
        if (!isFirstTile(x, width, picture.x0) || !isFirstTile(y, height, picture.y0)) {
            throw new IllegalArgumentException("the first tile lies beside the picture");
        }
        int columns = Grid.countAlong(x, width, picture.x1);
        int rows = Grid.countAlong(y, height, picture.y1);
        if (columns * rows > MOST_TILES) {
            throw new IllegalArgumentException("too many tiles");
        }
        tileGrid.lay(x, y, width, height, picture);
        return tileGrid.count();
    }

    public int component(int dx, int dy) throws IllegalArgumentException, IllegalStateException {
        if (!isWithin(dx, 1, MOST_STEP) || !isWithin(dy, 1, MOST_STEP)) {
            throw new IllegalArgumentException("no such step");
        }
        if (componentCount >= MOST_COMPONENTS) {
            throw new IllegalStateException("there are as many components as there may be");
        }
        int number = componentCount;
        components[number] = new Component(dx, dy);
        componentCount = number + 1;
        return number;
    }

    public void coding(int c, int n, int bw, int bh)
            throws NoSuchElementException, IllegalArgumentException {
        Component component = componentAt(c);
        if (component == null) {
            throw new NoSuchElementException("no such component");
        }
        if (!isWithin(n, 0, MOST_LEVEL)) {
            throw new IllegalArgumentException("no such number of levels");
        }
        if (!isBlockExponent(bw) || !isBlockExponent(bh)
                || bw + bh > MOST_BLOCK_EXPONENTS_TOGETHER) {
            throw new IllegalArgumentException("no such size of a block");
        }
        component.levels = n;
        component.blockW = bw;
        component.blockH = bh;
    }

    public void precincts(int c, int r, int pw, int ph)
            throws NoSuchElementException, IllegalArgumentException {
        Component component = componentAt(c);
        if (component == null || !isWithin(r, 0, MOST_LEVEL)) {
            throw new NoSuchElementException("no such component or level");
        }
        int least = r == 0 ? 0 : 1;
        if (!isWithin(pw, least, MOST_PRECINCT_EXPONENT)
                || !isWithin(ph, least, MOST_PRECINCT_EXPONENT)) {
            throw new IllegalArgumentException("no such size of a precinct");
        }
        component.precinctW[r] = pw;
        component.precinctH[r] = ph;
    }

    public int tile(int t, int what) throws NoSuchElementException {
        if (!isWithin(what, 0, LAST_EDGE) || !findTile(t)) {
            throw new NoSuchElementException("no such tile or question");
        }
        return tileBox.edge(what);
    }

    public int part(int t, int c, int what) throws NoSuchElementException {
        Component component = componentAt(c);
        if (component == null || !isWithin(what, 0, 4) || !findPart(t, component)) {
            throw new NoSuchElementException("no such part or question");
        }
        return what == 4 ? countBlocks(component) : partBox.edge(what);
    }

    public int level(int t, int c, int r, int what) throws NoSuchElementException {
        Component component = componentAt(c);
        if (component == null || !isWithin(what, 0, 5) || !findPart(t, component)
                || !findLevel(component, r)) {
            throw new NoSuchElementException("no such level or question");
        }
        return edgeOrCount(levelBox, precinctGrid, what);
    }

    public int band(int t, int c, int r, int b, int what) throws NoSuchElementException {
        Component component = componentAt(c);
        if (component == null || !isWithin(what, 0, 5) || !findPart(t, component)
                || !findBand(component, r, b)) {
            throw new NoSuchElementException("no such band or question");
        }
        if (what <= LAST_EDGE) {
            return bandBox.edge(what);
        }
        return what == 4 ? component.blockWidthAt(r) : component.blockHeightAt(r);
    }

    public int precinct(int t, int c, int r, int p, int what) throws NoSuchElementException {
        Component component = componentAt(c);
        if (component == null || !isWithin(what, 0, LAST_EDGE) || !findPart(t, component)
                || !findLevel(component, r) || !precinctGrid.has(p)) {
            throw new NoSuchElementException("no such precinct or question");
        }
        cellBox.takeCell(levelBox, precinctGrid, p);
        return cellBox.edge(what);
    }

    public int share(int t, int c, int r, int b, int p, int what) throws NoSuchElementException {
        Component component = componentAt(c);
        if (component == null || !isWithin(what, 0, 5) || !findPart(t, component)
                || !findShare(component, r, b, p)) {
            throw new NoSuchElementException("no such share or question");
        }
        return edgeOrCount(shareBox, blockGrid, what);
    }

    public int block(int t, int c, int r, int b, int p, int k, int what)
            throws NoSuchElementException {
        Component component = componentAt(c);
        if (component == null || !isWithin(what, 0, LAST_EDGE) || !findPart(t, component)
                || !findShare(component, r, b, p) || !blockGrid.has(k)) {
            throw new NoSuchElementException("no such block or question");
        }
        cellBox.takeCell(shareBox, blockGrid, k);
        return cellBox.edge(what);
    }

    public int where(int c, int x, int y) throws NoSuchElementException {
        Component component = componentAt(c);
        if (component == null) {
            throw new NoSuchElementException("no such component");
        }
        // Dividing a tile's edges upwards gives its part just the samples whose point on the grid,
        // a step apart from each other, is in the tile.
        long gridX = (long) x * component.dx;
        long gridY = (long) y * component.dy;
        if (!picture.has(gridX, gridY)) {
            throw new NoSuchElementException("no tile has such a sample");
        }
        return tileGrid.numberAt((int) gridX, (int) gridY);
    }

    public int coefficient(int t, int c, int x, int y, int what) throws NoSuchElementException {
        Component component = componentAt(c);
        if (component == null || !isWithin(what, 0, 5) || !findPart(t, component)
                || !partBox.has(x, y)) {
            throw new NoSuchElementException("no such sample or question");
        }
        int r = component.levels;
        int atX = x;
        int atY = y;
        while (r > 0 && ((atX | atY) & 1) == 0) {
            r--;
            atX >>= 1;
            atY >>= 1;
        }
        return ofCoefficient(component, r, atX, atY, what);
    }

    /** Answers of the coefficient for the sample that is (x, y) at level r, where it is found. */
    private int ofCoefficient(Component component, int r, int x, int y, int what) {
        int b = r == 0 ? 0 : (x & 1) + 2 * (y & 1);
        int inBandX = x >> halvingsOfBand(r);
        int inBandY = y >> halvingsOfBand(r);
        switch (what) {
            case 0:
                return r;
            case 1:
                return b;
            case 2:
                return inBandX;
            case 3:
                return inBandY;
            default:
                break;
        }
        lookAtLevel(component, r);
        int p = precinctGrid.numberAt(x, y);
        if (what == 4) {
            return p;
        }
        lookAtBand(component, r, b);
        lookAtShare(component, r, p);
        return blockGrid.numberAt(inBandX, inBandY);
    }

    private static boolean isWithin(int value, int least, int most) {
        return value >= least && value <= most;
    }

    private static boolean isBlockExponent(int exponent) {
        return isWithin(exponent, LEAST_BLOCK_EXPONENT, MOST_BLOCK_EXPONENT);
    }

    /** Whether a tile from start on has the picture's first column (or row). */
    private static boolean isFirstTile(int start, int size, int first) {
        return isWithin(start, 0, first) && start + size > first;
    }

    /** The component of that number, null if there is none. */
    private Component componentAt(int c) {
        return c >= 0 && c < componentCount ? components[c] : null;
    }

    private boolean findTile(int t) {
        if (!tileGrid.has(t)) {
            return false;
        }
        tileBox.takeCell(picture, tileGrid, t);
        return true;
    }

    private boolean findPart(int t, Component component) {
        if (!findTile(t)) {
            return false;
        }
        partBox.divide(tileBox, component.dx, component.dy);
        return true;
    }

    private boolean findLevel(Component component, int r) {
        if (!isWithin(r, 0, component.levels)) {
            return false;
        }
        lookAtLevel(component, r);
        return true;
    }

    private boolean findBand(Component component, int r, int b) {
        if (!isWithin(r, 0, component.levels) || !isWithin(b, firstBand(r), lastBand(r))) {
            return false;
        }
        lookAtBand(component, r, b);
        return true;
    }

    private boolean findShare(Component component, int r, int b, int p) {
        if (!findLevel(component, r) || !findBand(component, r, b) || !precinctGrid.has(p)) {
            return false;
        }
        lookAtShare(component, r, p);
        return true;
    }

    private static int firstBand(int r) {
        return r == 0 ? 0 : 1;
    }

    private static int lastBand(int r) {
        return r == 0 ? 0 : 3;
    }

    /** How often the plane of a level is halved in its bands. */
    private static int halvingsOfBand(int r) {
        return r == 0 ? 0 : 1;
    }

    /** Goes from the part that is looked at to its level r, which it has. */
    private void lookAtLevel(Component component, int r) {
        levelBox.scale(partBox, component.levels - r, 0, 0);
        precinctGrid.layPowers(levelBox, component.precinctW[r], component.precinctH[r]);
    }

    /** Goes from the part that is looked at to band b of its level r, which it has. */
    private void lookAtBand(Component component, int r, int b) {
        int n = component.levels - r + halvingsOfBand(r);
        bandBox.scale(partBox, n, b & 1, b >> 1);
    }

    /** Goes from the level and band that are looked at to the share of precinct p, which it has. */
    private void lookAtShare(Component component, int r, int p) {
        int halvings = halvingsOfBand(r);
        shareBox.cut(bandBox, precinctGrid.leftOf(p) >> halvings, precinctGrid.topOf(p) >> halvings,
                precinctGrid.width >> halvings, precinctGrid.height >> halvings);
        if (shareBox.isEmpty()) {
            shareBox.set(0, 0, 0, 0);
        }
        layBlocks(shareBox, component, r);
    }

    private void layBlocks(Box box, Component component, int r) {
        blockGrid.layPowers(box, component.blockWidthAt(r), component.blockHeightAt(r));
    }

    /**
     * The blocks of all bands of the part that is looked at. No block reaches over the edge of a
     * precinct, so the blocks of a band's shares are those of the whole band.
     */
    private int countBlocks(Component component) {
        int count = 0;
        for (int r = 0; r <= component.levels; r++) {
            for (int b = firstBand(r); b <= lastBand(r); b++) {
                lookAtBand(component, r, b);
                layBlocks(bandBox, component, r);
                count += blockGrid.count();
            }
        }
        return count;
    }

    /** Answers 0 .. 3 with an edge of the box, 4 and 5 with the columns and rows of its grid. */
    private static int edgeOrCount(Box box, Grid grid, int what) {
        if (what <= LAST_EDGE) {
            return box.edge(what);
        }
        return what == 4 ? grid.columns : grid.rows;
    }

    /** A rectangle of points, x0 <= x < x1 and y0 <= y < y1. */
    private static final class Box {
        int x0 = 0;
        int y0 = 0;
        int x1 = 0;
        int y1 = 0;

        void set(int left, int top, int right, int bottom) {
            x0 = left;
            y0 = top;
            x1 = right;
            y1 = bottom;
        }

        boolean isEmpty() {
            return x0 >= x1 || y0 >= y1;
        }

        boolean has(long x, long y) {
            return x >= x0 && x < x1 && y >= y0 && y < y1;
        }

        int edge(int what) {
            switch (what) {
                case 0:
                    return x0;
                case 1:
                    return y0;
                case 2:
                    return x1;
                default:
                    return y1;
            }
        }

        /** Becomes the whole divided by the steps upwards. */
        void divide(Box whole, int dx, int dy) {
            set(divided(whole.x0, dx), divided(whole.y0, dy),
                    divided(whole.x1, dx), divided(whole.y1, dy));
        }

        private static int divided(int edge, int step) {
            return step < 1 ? edge : (edge + step - 1) / step;
        }

        /** Becomes the whole, less ox and oy times half of 2^n, divided by 2^n upwards. */
        void scale(Box whole, int n, int ox, int oy) {
            set(scaled(whole.x0, n, ox), scaled(whole.y0, n, oy),
                    scaled(whole.x1, n, ox), scaled(whole.y1, n, oy));
        }

        /** In long, as n goes up to 32. */
        private static int scaled(int edge, int n, int o) {
            long size = 1L << n;
            long taken = o * (size >> 1);
            return (int) ((edge - taken + size - 1) >> n);
        }

        /** Becomes what a rectangle of that corner and size has of the whole. */
        void cut(Box whole, int left, int top, int width, int height) {
            set(Math.max(whole.x0, left), Math.max(whole.y0, top),
                    Math.min(whole.x1, left + width), Math.min(whole.y1, top + height));
        }

        /** Becomes what cell k of the grid has of the whole. */
        void takeCell(Box whole, Grid grid, int k) {
            cut(whole, grid.leftOf(k), grid.topOf(k), grid.width, grid.height);
        }
    }

    /**
     * Cells of one size (tiles, precincts, blocks), as many side by side as it takes to have all of
     * a box, numbered from 0 row by row; none if the box is empty.
     */
    private static final class Grid {
        int left = 0;
        int top = 0;
        int width = 1;
        int height = 1;
        int columns = 0;
        int rows = 0;

        /** How many cells it takes from start on to reach the end. */
        static int countAlong(int start, int size, int end) {
            return size < 1 ? 0 : (end - start + size - 1) / size;
        }

        /** Lays cells from (x, y) on; the first has some of the box's first column and row. */
        void lay(int x, int y, int cellWidth, int cellHeight, Box box) {
            left = x;
            top = y;
            width = cellWidth;
            height = cellHeight;
            columns = box.isEmpty() ? 0 : countAlong(x, cellWidth, box.x1);
            rows = box.isEmpty() ? 0 : countAlong(y, cellHeight, box.y1);
        }

        /** Lays those cells, 2^w wide and 2^h high from (0, 0) on, that have some of the box. */
        void layPowers(Box box, int w, int h) {
            lay((box.x0 >> w) << w, (box.y0 >> h) << h, 1 << w, 1 << h, box);
        }

        int count() {
            return columns * rows;
        }

        boolean has(int k) {
            return k >= 0 && k < count();
        }

        int leftOf(int k) {
            return columns < 1 ? left : left + k % columns * width;
        }

        int topOf(int k) {
            return columns < 1 ? top : top + k / columns * height;
        }

        /** The cell that has a point of the box. */
        int numberAt(int x, int y) {
            if (width < 1 || height < 1) {
                return 0;
            }
            return (y - top) / height * columns + (x - left) / width;
        }
    }

    /** A component's steps and how it is coded; the exponents of precincts stand by level. */
    private static final class Component {
        final int dx;
        final int dy;
        int levels = 0;
        int blockW = FIRST_BLOCK_EXPONENT;
        int blockH = FIRST_BLOCK_EXPONENT;
        final int[] precinctW = new int[MOST_LEVEL + 1];
        final int[] precinctH = new int[MOST_LEVEL + 1];

        Component(int stepX, int stepY) {
            dx = stepX;
            dy = stepY;
            for (int r = 0; r <= MOST_LEVEL; r++) {
                precinctW[r] = MOST_PRECINCT_EXPONENT;
                precinctH[r] = MOST_PRECINCT_EXPONENT;
            }
        }

        int blockWidthAt(int r) {
            return Math.min(blockW, precinctW[r] - halvingsOfBand(r));
        }

        int blockHeightAt(int r) {
            return Math.min(blockH, precinctH[r] - halvingsOfBand(r));
        }
    }
}
