import java.util.ArrayList;
import java.util.LinkedHashMap;
import java.util.List;
import java.util.Map;

/**
 * "A call that throws changes nothing": two objects are brought to the same state, one of them is
 * asked for something that is refused, and then both must answer every later call alike. The
 * exception that is due comes from the model.
 */
public final class RefusalTest {
    private static final int MOST_CALLS = 512;
    private static final int LEAST = Integer.MIN_VALUE;
    private static final int MOST = Integer.MAX_VALUE;

    private record Call(String name, int... args) {
    }

    /** By name, with arguments that are right in the state "all". */
    private static final List<Call> RIGHT = List.of(
            new Call("area", 4, 6, 30, 31),
            new Call("tiles", 2, 3, 9, 11),
            new Call("tiles", 2, 3, 1, 1),
            new Call("component", 3, 2),
            new Call("coding", 0, 3, 4, 5),
            new Call("coding", 1, 0, 7, 3),
            new Call("precincts", 0, 0, 4, 5),
            new Call("precincts", 0, 2, 4, 5),
            new Call("precincts", 1, 32, 4, 5),
            new Call("tile", 3, 2),
            new Call("part", 3, 0, 4),
            new Call("level", 3, 0, 2, 4),
            new Call("band", 3, 0, 2, 1, 4),
            new Call("precinct", 3, 0, 1, 0, 2),
            new Call("share", 3, 0, 1, 3, 0, 4),
            new Call("block", 3, 0, 1, 3, 0, 0, 2),
            new Call("where", 0, 20, 20),
            new Call("coefficient", 3, 0, 4, 13, 5));

    /** What is tried in the place of each argument. */
    private static final int[] TRIED = {LEAST, -1, 0, 1, 4, 7, 12, 16, 33, 41, 256, 32768, 65540,
        MOST};

    private static int refusedCalls = 0;

    public static void main(String[] args) {
        Document.quote("Terms", "A call that throws changes nothing.");
        Map<String, List<Call>> laters = laters();
        for (Map.Entry<String, List<Call>> state : states().entrySet()) {
            new RefusalTest(state.getKey(), state.getValue(), laters).refuseAll();
        }
        System.out.println(refusedCalls + " refused calls");
        Run.finish();
    }

    private final String state;
    private final List<Call> setUp;
    private final Map<String, List<Call>> laters;
    private final Map<String, List<String>> untouched = new LinkedHashMap<>();

    private RefusalTest(String state, List<Call> setUp, Map<String, List<Call>> laters) {
        this.state = state;
        this.setUp = setUp;
        this.laters = laters;
    }

    private static Map<String, List<Call>> states() {
        Map<String, List<Call>> states = new LinkedHashMap<>();
        List<Call> picture = List.of(new Call("area", 3, 5, 40, 37),
                new Call("tiles", 1, 2, 16, 10));
        List<Call> components = List.of(new Call("component", 1, 1), new Call("component", 2, 3),
                new Call("coding", 0, 2, 3, 4), new Call("precincts", 0, 0, 1, 2),
                new Call("precincts", 0, 1, 3, 2), new Call("coding", 1, 1, 2, 5),
                new Call("precincts", 1, 5, 4, 6));
        List<Call> many = new ArrayList<>(joined(picture, components));
        for (int c = 2; c < 16; c++) {
            many.add(new Call("component", c, 18 - c));
        }
        // So long that tiles of 1 by 1 would be too many.
        List<Call> strip = List.of(new Call("area", 2, 3, 21848, 6),
                new Call("tiles", 2, 3, 100, 2));
        states.put("new", List.of());
        states.put("picture", picture);
        states.put("components", components);
        states.put("all", joined(picture, components));
        states.put("sixteen components", many);
        states.put("strip", joined(strip, components));
        return states;
    }

    private static List<Call> joined(List<Call> first, List<Call> second) {
        List<Call> all = new ArrayList<>(first);
        all.addAll(second);
        return all;
    }

    private static Map<String, List<Call>> laters() {
        Map<String, List<Call>> laters = new LinkedHashMap<>();
        laters.put("asking for tiles, parts and levels", askingLarge());
        laters.put("asking for bands, precincts and blocks", askingSmall());
        laters.put("more components", moreComponents());
        laters.put("levels of component 0", allLevels(0));
        laters.put("levels of component 1", allLevels(1));
        laters.put("another picture", anotherPicture());
        return laters;
    }

    private static List<Call> askingLarge() {
        List<Call> later = new ArrayList<>();
        for (int what = 0; what <= 5; what++) {
            for (int t = 0; t <= 12; t++) {
                later.add(new Call("tile", t, what));
            }
            for (int t : new int[] {0, 4, 11}) {
                for (int c = 0; c <= 16; c++) {
                    later.add(new Call("part", t, c, what));
                }
            }
            for (int r = 0; r <= 3; r++) {
                later.add(new Call("level", 0, 0, r, what));
                later.add(new Call("level", 4, 1, r, what));
            }
        }
        return later;
    }

    private static List<Call> askingSmall() {
        List<Call> later = new ArrayList<>();
        for (int c = 0; c <= 1; c++) {
            for (int b = 0; b <= 3; b++) {
                for (int r = b == 0 ? 0 : 1; r <= 2; r++) {
                    for (int what = 0; what <= 5; what++) {
                        later.add(new Call("band", 4, c, r, b, what));
                        later.add(new Call("share", 4, c, r, b, 1, what));
                    }
                    later.add(new Call("block", 4, c, r, b, 0, 0, 0));
                    later.add(new Call("block", 4, c, r, b, 1, 0, 3));
                }
            }
            for (int what = 0; what <= 5; what++) {
                later.add(new Call("precinct", 4, c, 1, 1, what));
                for (int at = 8; at <= 20; at += 3) {
                    later.add(new Call("coefficient", 4, c, at + 9, at, what));
                }
            }
        }
        for (int at = 2; at <= 40; at += 2) {
            later.add(new Call("where", 0, at, at));
            later.add(new Call("where", 1, at / 2, at / 3));
        }
        return later;
    }

    private static List<Call> moreComponents() {
        List<Call> later = new ArrayList<>();
        for (int c = 0; c <= 16; c++) {
            later.add(new Call("component", 1 + c, 7));
        }
        later.add(new Call("area", 0, 0, 3000, 2000));
        for (int c = 0; c <= 16; c++) {
            later.add(new Call("part", 0, c, 2));
            later.add(new Call("part", 0, c, 3));
            later.add(new Call("part", 0, c, 4));
            later.add(new Call("level", 0, c, 1, 4));
            later.add(new Call("level", 0, c, 0, 4));
            later.add(new Call("level", 0, c, 0, 5));
            later.add(new Call("band", 0, c, 0, 0, 4));
            later.add(new Call("band", 0, c, 0, 0, 5));
        }
        return later;
    }

    /** Level r is the whole of the picture if there are as many, and tells its precincts then. */
    private static List<Call> allLevels(int c) {
        List<Call> later = new ArrayList<>();
        later.add(new Call("area", 0, 0, 32767, 32767));
        for (int r = 0; r <= 32; r++) {
            later.add(new Call("coding", c, r, 2, 10));
            later.add(new Call("level", 0, c, r, 4));
            later.add(new Call("level", 0, c, r, 5));
            later.add(new Call("part", 0, c, 4));
        }
        return later;
    }

    private static List<Call> anotherPicture() {
        List<Call> later = new ArrayList<>();
        later.add(new Call("tiles", 0, 0, 7, 8));
        addTiles(later);
        later.add(new Call("tiles", 3, 5, 33, 31));
        addTiles(later);
        later.add(new Call("area", 1, 2, 50, 60));
        addTiles(later);
        later.add(new Call("tiles", 1, 2, 10, 10));
        addTiles(later);
        later.add(new Call("part", 2, 0, 4));
        later.add(new Call("where", 1, 5, 5));
        return later;
    }

    private static void addTiles(List<Call> later) {
        for (int t = 0; t <= 31; t += 2) {
            for (int what = 0; what <= 3; what++) {
                later.add(new Call("tile", t, what));
            }
        }
    }

    /** One argument after the other, and two of them, are put at each of the values. */
    private void refuseAll() {
        for (Call right : RIGHT) {
            int[] args = right.args();
            for (int i = 0; i < args.length; i++) {
                for (int value : TRIED) {
                    refuse(changed(right, i, value));
                }
                for (int j = 0; j < i; j++) {
                    refuse(changed(changed(right, i, -1), j, -1));
                    refuse(changed(changed(right, i, MOST), j, MOST));
                    refuse(changed(changed(right, i, MOST), j, LEAST));
                    refuse(changed(changed(right, i, 0), j, -1));
                }
            }
            refuse(right);
        }
    }

    private static Call changed(Call call, int index, int value) {
        int[] args = call.args().clone();
        args[index] = value;
        return new Call(call.name(), args);
    }

    private void refuse(Call call) {
        String due = dueOf(call);
        if (!due.startsWith("throws.")) {
            return;
        }
        refusedCalls++;
        for (Map.Entry<String, List<Call>> later : laters.entrySet()) {
            compare(call, due, later.getKey(), later.getValue());
        }
    }

    private String dueOf(Call call) {
        Model model = new Model();
        for (Call before : setUp) {
            model.answer(before.name(), before.args());
        }
        return model.answer(call.name(), call.args());
    }

    private void compare(Call call, String due, String name, List<Call> later) {
        if (setUp.size() + 1 + later.size() > MOST_CALLS) {
            throw new AssertionError("too many calls for one object: " + name);
        }
        Run run = new Run("state \"" + state + "\"");
        for (Call before : setUp) {
            run.answer(before.name(), before.args());
        }
        run.due(due, call.name(), call.args());
        if (!answers(run, later).equals(untouchedAnswers(name, later))) {
            run.report(call.name(), call.args(), "throws but changes something: " + name);
        }
    }

    /** What an object answers that has not been asked for the refused call. */
    private List<String> untouchedAnswers(String name, List<Call> later) {
        if (!untouched.containsKey(name)) {
            Run run = new Run("state \"" + state + "\"");
            for (Call before : setUp) {
                run.answer(before.name(), before.args());
            }
            untouched.put(name, answers(run, later));
        }
        return untouched.get(name);
    }

    private static List<String> answers(Run run, List<Call> later) {
        List<String> answers = new ArrayList<>();
        for (Call call : later) {
            answers.add(run.answer(call.name(), call.args()));
        }
        return answers;
    }
}
