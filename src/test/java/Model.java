import java.util.ArrayList;
import java.util.List;
import java.util.Set;
import java.util.TreeSet;

/**
 * The document read word by word and as slowly as it likes: what a tile, precinct, share or block
 * has is found by going through all points. For small pictures only.
 */
final class Model {
    static final Set<String> CHANGES = Set.of("area", "tiles", "component", "coding", "precincts");

    private static final class Refused extends RuntimeException {
        private static final long serialVersionUID = 1L;
        final String answer;

        Refused(String answer) {
            super(answer, null, false, false);
            this.answer = answer;
        }
    }

    record Rectangle(int x0, int y0, int x1, int y1) {
        boolean isEmpty() {
            return x0 >= x1 || y0 >= y1;
        }

        boolean has(int x, int y) {
            return x0 <= x && x < x1 && y0 <= y && y < y1;
        }

        int edge(int what) {
            return new int[] {x0, y0, x1, y1}[what];
        }
    }

    private static final class Component {
        int dx;
        int dy;
        int levels = 0;
        int bw = 6;
        int bh = 6;
        final int[] pw = new int[33];
        final int[] ph = new int[33];
    }

    /** The cells of a plane of one size that have some of a rectangle, and what each has. */
    private static final class Cells {
        final TreeSet<Integer> columns = new TreeSet<>();
        final TreeSet<Integer> rows = new TreeSet<>();
        final int width;
        final int height;
        final Rectangle of;

        Cells(Rectangle of, int width, int height) {
            this.of = of;
            this.width = width;
            this.height = height;
            for (int y = of.y0; y < of.y1; y++) {
                for (int x = of.x0; x < of.x1; x++) {
                    columns.add(x / width);
                    rows.add(y / height);
                }
            }
        }

        int count() {
            return columns.size() * rows.size();
        }

        int column(int k) {
            return new ArrayList<>(columns).get(k % columns.size());
        }

        int row(int k) {
            return new ArrayList<>(rows).get(k / columns.size());
        }

        Rectangle had(int k) {
            return hasOf(of, width, height, column(k), row(k));
        }
    }

    private Rectangle picture = null;
    private int tileX;
    private int tileY;
    private int tileWidth;
    private int tileHeight;
    private final List<Component> components = new ArrayList<>();

    /** The answer that is due, as Run writes answers. */
    String answer(String name, int... a) {
        try {
            return String.valueOf(answered(name, a));
        } catch (Refused e) {
            return e.answer;
        }
    }

    private Object answered(String name, int[] a) {
        switch (name) {
            case "area": return area(a[0], a[1], a[2], a[3]);
            case "tiles": return layTiles(a[0], a[1], a[2], a[3]);
            case "component": return addComponent(a[0], a[1]);
            case "coding": return code(a[0], a[1], a[2], a[3]);
            case "precincts": return setPrecincts(a[0], a[1], a[2], a[3]);
            case "tile": return edge(tile(a[0]), a[1]);
            case "part": return a[2] == 4 ? blocksOfPart(a[0], a[1]) : edge(part(a[0], a[1]), a[2]);
            case "level": return ofLevel(a[0], a[1], a[2], a[3]);
            case "band": return ofBand(a[0], a[1], a[2], a[3], a[4]);
            case "precinct": return edge(precinct(a[0], a[1], a[2], a[3]), a[4]);
            case "share": return ofShare(a[0], a[1], a[2], a[3], a[4], a[5]);
            case "block": return edge(block(a[0], a[1], a[2], a[3], a[4], a[5]), a[6]);
            case "where": return where(a[0], a[1], a[2]);
            default: return coefficient(a[0], a[1], a[2], a[3], a[4]);
        }
    }

    int tileCount() {
        return picture == null ? 0 : allTiles().size();
    }

    int componentCount() {
        return components.size();
    }

    int levels(int c) {
        return components.get(c).levels;
    }

    Rectangle part(int t, int c) {
        Rectangle tile = tile(t);
        Component k = component(c);
        return new Rectangle(up(tile.x0, k.dx), up(tile.y0, k.dy), up(tile.x1, k.dx),
                up(tile.y1, k.dy));
    }

    private static void refuseIf(boolean wrong, String answer) {
        if (wrong) {
            throw new Refused(answer);
        }
    }

    private static boolean outside(int value, int least, int most) {
        return value < least || value > most;
    }

    private static int up(long a, long b) {
        return (int) -Math.floorDiv(-a, b);
    }

    private static Rectangle hasOf(Rectangle of, int width, int height, int column, int row) {
        int x0 = Integer.MAX_VALUE;
        int y0 = Integer.MAX_VALUE;
        int x1 = 0;
        int y1 = 0;
        for (int y = of.y0; y < of.y1; y++) {
            for (int x = of.x0; x < of.x1; x++) {
                if (x / width == column && y / height == row) {
                    x0 = Math.min(x0, x);
                    y0 = Math.min(y0, y);
                    x1 = Math.max(x1, x + 1);
                    y1 = Math.max(y1, y + 1);
                }
            }
        }
        return x1 == 0 ? new Rectangle(0, 0, 0, 0) : new Rectangle(x0, y0, x1, y1);
    }

    private static int edge(Rectangle of, int what) {
        refuseIf(outside(what, 0, 3), Run.NONE);
        return of.edge(what);
    }

    private String area(int x0, int y0, int x1, int y1) {
        Rectangle asked = new Rectangle(x0, y0, x1, y1);
        refuseIf(asked.isEmpty() || x0 < 0 || y0 < 0 || x1 > 32767 || y1 > 32767, Run.ARGUMENT);
        picture = asked;
        tileX = 0;
        tileY = 0;
        tileWidth = x1;
        tileHeight = y1;
        return Run.DONE;
    }

    private int layTiles(int x, int y, int width, int height) {
        refuseIf(picture == null, Run.STATE);
        refuseIf(x < 0 || y < 0 || outside(width, 1, 32767) || outside(height, 1, 32767),
                Run.ARGUMENT);
        refuseIf(x > picture.x0 || y > picture.y0, Run.ARGUMENT);
        refuseIf(x + width <= picture.x0 || y + height <= picture.y0, Run.ARGUMENT);
        long count = (long) up(picture.x1 - x, width) * up(picture.y1 - y, height);
        refuseIf(count > 65535, Run.ARGUMENT);
        tileX = x;
        tileY = y;
        tileWidth = width;
        tileHeight = height;
        return (int) count;
    }

    private int addComponent(int dx, int dy) {
        refuseIf(outside(dx, 1, 255) || outside(dy, 1, 255), Run.ARGUMENT);
        refuseIf(components.size() == 16, Run.STATE);
        Component added = new Component();
        added.dx = dx;
        added.dy = dy;
        java.util.Arrays.fill(added.pw, 15);
        java.util.Arrays.fill(added.ph, 15);
        components.add(added);
        return components.size() - 1;
    }

    private Component component(int c) {
        refuseIf(outside(c, 0, components.size() - 1), Run.NONE);
        return components.get(c);
    }

    private String code(int c, int n, int bw, int bh) {
        Component component = component(c);
        refuseIf(outside(n, 0, 32) || outside(bw, 2, 10) || outside(bh, 2, 10) || bw + bh > 12,
                Run.ARGUMENT);
        component.levels = n;
        component.bw = bw;
        component.bh = bh;
        return Run.DONE;
    }

    private String setPrecincts(int c, int r, int pw, int ph) {
        Component component = component(c);
        refuseIf(outside(r, 0, 32), Run.NONE);
        refuseIf(outside(pw, 0, 15) || outside(ph, 0, 15), Run.ARGUMENT);
        refuseIf(r > 0 && (pw == 0 || ph == 0), Run.ARGUMENT);
        component.pw[r] = pw;
        component.ph[r] = ph;
        return Run.DONE;
    }

    private List<Rectangle> allTiles() {
        List<Rectangle> all = new ArrayList<>();
        for (int y = tileY; y < picture.y1; y += tileHeight) {
            for (int x = tileX; x < picture.x1; x += tileWidth) {
                all.add(new Rectangle(Math.max(x, picture.x0), Math.max(y, picture.y0),
                        Math.min(x + tileWidth, picture.x1), Math.min(y + tileHeight, picture.y1)));
            }
        }
        return all;
    }

    private Rectangle tile(int t) {
        refuseIf(outside(t, 0, tileCount() - 1), Run.NONE);
        return allTiles().get(t);
    }

    private Rectangle level(int t, int c, int r) {
        Rectangle part = part(t, c);
        refuseIf(outside(r, 0, levels(c)), Run.NONE);
        long by = 1L << (levels(c) - r);
        return new Rectangle(up(part.x0, by), up(part.y0, by), up(part.x1, by), up(part.y1, by));
    }

    private Rectangle band(int t, int c, int r, int b) {
        Rectangle level = level(t, c, r);
        refuseIf(r == 0 ? b != 0 : outside(b, 1, 3), Run.NONE);
        if (r == 0) {
            return level;
        }
        Rectangle part = part(t, c);
        long by = 1L << (levels(c) - r + 1);
        long offX = b == 1 || b == 3 ? by / 2 : 0;
        long offY = b == 2 || b == 3 ? by / 2 : 0;
        return new Rectangle(up(part.x0 - offX, by), up(part.y0 - offY, by),
                up(part.x1 - offX, by), up(part.y1 - offY, by));
    }

    private Cells precincts(int t, int c, int r) {
        Component k = component(c);
        return new Cells(level(t, c, r), 1 << k.pw[r], 1 << k.ph[r]);
    }

    private int widthInBand(int c, int r) {
        return r == 0 ? component(c).pw[r] : component(c).pw[r] - 1;
    }

    private int heightInBand(int c, int r) {
        return r == 0 ? component(c).ph[r] : component(c).ph[r] - 1;
    }

    private int blockW(int c, int r) {
        return Math.min(component(c).bw, widthInBand(c, r));
    }

    private int blockH(int c, int r) {
        return Math.min(component(c).bh, heightInBand(c, r));
    }

    private Rectangle precinct(int t, int c, int r, int p) {
        Cells precincts = precincts(t, c, r);
        refuseIf(outside(p, 0, precincts.count() - 1), Run.NONE);
        return precincts.had(p);
    }

    private Rectangle share(int t, int c, int r, int b, int p) {
        Rectangle band = band(t, c, r, b);
        Cells precincts = precincts(t, c, r);
        refuseIf(outside(p, 0, precincts.count() - 1), Run.NONE);
        return hasOf(band, 1 << widthInBand(c, r), 1 << heightInBand(c, r), precincts.column(p),
                precincts.row(p));
    }

    private Cells blocks(int t, int c, int r, int b, int p) {
        return new Cells(share(t, c, r, b, p), 1 << blockW(c, r), 1 << blockH(c, r));
    }

    private Rectangle block(int t, int c, int r, int b, int p, int k) {
        Cells blocks = blocks(t, c, r, b, p);
        refuseIf(outside(k, 0, blocks.count() - 1), Run.NONE);
        return blocks.had(k);
    }

    private int blocksOfPart(int t, int c) {
        part(t, c);
        int count = 0;
        for (int r = 0; r <= levels(c); r++) {
            for (int b = r == 0 ? 0 : 1; b <= (r == 0 ? 0 : 3); b++) {
                for (int p = 0; p < precincts(t, c, r).count(); p++) {
                    count += blocks(t, c, r, b, p).count();
                }
            }
        }
        return count;
    }

    private int ofLevel(int t, int c, int r, int what) {
        Rectangle level = level(t, c, r);
        Cells precincts = precincts(t, c, r);
        return what == 4 ? precincts.columns.size()
                : what == 5 ? precincts.rows.size() : edge(level, what);
    }

    private int ofBand(int t, int c, int r, int b, int what) {
        Rectangle band = band(t, c, r, b);
        return what == 4 ? blockW(c, r) : what == 5 ? blockH(c, r) : edge(band, what);
    }

    private int ofShare(int t, int c, int r, int b, int p, int what) {
        Rectangle share = share(t, c, r, b, p);
        Cells blocks = blocks(t, c, r, b, p);
        return what == 4 ? blocks.columns.size()
                : what == 5 ? blocks.rows.size() : edge(share, what);
    }

    private int where(int c, int x, int y) {
        component(c);
        for (int t = 0; t < tileCount(); t++) {
            if (part(t, c).has(x, y)) {
                return t;
            }
        }
        throw new Refused(Run.NONE);
    }

    private int coefficient(int t, int c, int x, int y, int what) {
        refuseIf(!part(t, c).has(x, y) || outside(what, 0, 5), Run.NONE);
        return ofCoefficient(t, c, levels(c), x, y, what);
    }

    private int ofCoefficient(int t, int c, int r, int x, int y, int what) {
        if (r > 0 && x % 2 == 0 && y % 2 == 0) {
            return ofCoefficient(t, c, r - 1, x / 2, y / 2, what);
        }
        int b = r == 0 ? 0 : x % 2 == 0 ? 2 : y % 2 == 0 ? 1 : 3;
        int bx = r == 0 ? x : x / 2;
        int by = r == 0 ? y : y / 2;
        if (what < 4) {
            return new int[] {r, b, bx, by}[what];
        }
        int p = 0;
        while (!share(t, c, r, b, p).has(bx, by)) {
            p++;
        }
        int k = 0;
        while (!block(t, c, r, b, p, k).has(bx, by)) {
            k++;
        }
        return what == 4 ? p : k;
    }
}
