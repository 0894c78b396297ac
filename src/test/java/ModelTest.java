import java.util.Random;

/** Every question about many small pictures, against the slow model; right and wrong arguments. */
public final class ModelTest {
    private static final String[] CHANGES = {"area", "tiles", "component", "coding", "precincts"};
    private static final int[] ODD = {-1, 33, 256, 32767, 32768, 65536, Integer.MIN_VALUE,
        Integer.MAX_VALUE};

    private final Random random;
    private final Run run;
    private final Model model = new Model();

    private ModelTest(int seed) {
        random = new Random(seed);
        run = new Run("seed " + seed);
    }

    public static void main(String[] args) {
        for (int seed = 0; seed < 400; seed++) {
            new ModelTest(seed).askAll();
        }
        for (int seed = 1000; seed < 1400; seed++) {
            new ModelTest(seed).askAnything();
        }
        Run.finish();
    }

    private void ask(String name, int... args) {
        run.due(model.answer(name, args), name, args);
    }

    /** A picture and components at random, then every index there is and one beyond each end. */
    private void askAll() {
        setUp();
        for (int t = -1; t <= model.tileCount(); t++) {
            for (int what = -1; what <= 4; what++) {
                ask("tile", t, what);
            }
            for (int c = -1; c <= model.componentCount(); c++) {
                for (int what = -1; what <= 5; what++) {
                    ask("part", t, c, what);
                }
            }
        }
        for (int c = 0; c < model.componentCount(); c++) {
            int t = random.nextInt(model.tileCount());
            askLevels(t, c);
            askSamples(t, c);
        }
    }

    private int upTo(int most) {
        return random.nextInt(most + 1);
    }

    private void setUp() {
        int x0 = upTo(20);
        int y0 = upTo(20);
        ask("area", x0, y0, x0 + 1 + upTo(16), y0 + 1 + upTo(16));
        if (upTo(4) > 0) {
            int x = upTo(x0);
            int y = upTo(y0);
            ask("tiles", x, y, x0 - x + 1 + upTo(10), y0 - y + 1 + upTo(10));
        }
        for (int c = 0; c < 2; c++) {
            ask("component", 1 + upTo(2), 1 + upTo(2));
            int bw = 2 + upTo(2);
            ask("coding", c, upTo(9) == 0 ? 30 + upTo(2) : upTo(4), bw, 2 + upTo(2));
            for (int r = 0; r <= 4; r++) {
                int least = r == 0 ? 0 : 1;
                ask("precincts", c, r, least + upTo(3), least + upTo(3));
            }
        }
    }

    private void askLevels(int t, int c) {
        for (int r = -1; r <= model.levels(c) + 1; r++) {
            for (int what = -1; what <= 6; what++) {
                ask("level", t, c, r, what);
            }
            int precincts = 0;
            if (r >= 0 && r <= model.levels(c)) {
                precincts = number("level", t, c, r, 4) * number("level", t, c, r, 5);
            }
            for (int p = -1; p <= precincts; p++) {
                for (int what = -1; what <= 4; what++) {
                    ask("precinct", t, c, r, p, what);
                }
            }
            for (int b = -1; b <= 4; b++) {
                askBand(t, c, r, b, precincts);
            }
        }
    }

    private void askBand(int t, int c, int r, int b, int precincts) {
        for (int what = -1; what <= 6; what++) {
            ask("band", t, c, r, b, what);
        }
        for (int p = -1; p <= precincts; p++) {
            for (int what = -1; what <= 6; what++) {
                ask("share", t, c, r, b, p, what);
            }
            int blocks = number("share", t, c, r, b, p, 4) * number("share", t, c, r, b, p, 5);
            for (int k = -1; k <= blocks; k++) {
                for (int what = -1; what <= 4; what++) {
                    ask("block", t, c, r, b, p, k, what);
                }
            }
        }
    }

    private int number(String name, int... args) {
        String due = model.answer(name, args);
        return due.startsWith("throws.") ? 0 : Integer.parseInt(due);
    }

    private void askSamples(int t, int c) {
        Model.Rectangle part = model.part(t, c);
        for (int y = part.y0() - 1; y <= part.y1(); y++) {
            for (int x = part.x0() - 1; x <= part.x1(); x++) {
                ask("where", c, x, y);
                for (int what = -1; what <= 6; what++) {
                    ask("coefficient", t, c, x, y, what);
                }
            }
        }
    }

    /** Any calls in any order, many of them wrong, from the new object on. */
    private void askAnything() {
        for (int i = 0; i < 500; i++) {
            if (upTo(4) == 0) {
                change(CHANGES[upTo(CHANGES.length - 1)]);
            } else {
                ask("tile", any(12), any(4));
                ask("part", any(6), any(2), any(5));
                ask("level", any(6), any(2), any(4), any(6));
                ask("band", any(3), any(2), any(4), any(3), any(6));
                ask("precinct", any(3), any(2), any(4), any(6), any(4));
                ask("share", any(3), any(2), any(4), any(3), any(4), any(6));
                ask("block", any(3), any(2), any(4), any(3), any(3), any(3), any(4));
                ask("where", any(2), any(20), any(20));
                ask("coefficient", any(3), any(2), any(20), any(20), any(6));
            }
        }
    }

    private void change(String name) {
        switch (name) {
            case "area": {
                // Not above the small pictures that the model can bear.
                int x1 = any(24);
                int y1 = any(24);
                boolean large = x1 > 24 && x1 <= 32767 || y1 > 24 && y1 <= 32767;
                ask(name, any(8), any(8), large ? 12 : x1, large ? 12 : y1);
                break;
            }
            case "tiles":
                ask(name, any(8), any(8), any(16), any(16));
                break;
            case "component":
                ask(name, any(3), any(3));
                break;
            case "coding":
                ask(name, any(3), any(4), any(11), any(11));
                break;
            default:
                ask(name, any(3), any(4), any(5), any(5));
                break;
        }
    }

    private int any(int most) {
        return upTo(19) == 0 ? ODD[upTo(ODD.length - 1)] : upTo(most);
    }
}
