import java.lang.reflect.InvocationTargetException;
import java.lang.reflect.Method;
import java.util.ArrayList;
import java.util.HashMap;
import java.util.List;
import java.util.Map;

/**
 * A run of calls on a new PictureCanvas, each with the answer that is due. An answer is a number,
 * DONE of a void call, or the name of the exception behind "throws.".
 */
final class Run {
    static final String DONE = "done";
    static final String NONE = "throws.NoSuchElementException";
    static final String ARGUMENT = "throws.IllegalArgumentException";
    static final String STATE = "throws.IllegalStateException";

    private static final int CALLS_OF_ONE_OBJECT = 512;
    private static final int CALLS_OF_VIEW = 120;
    private static final int MOST_PRINTED = 50;
    private static final Map<String, Method> METHODS = methods();
    private static int calls = 0;
    private static int wrong = 0;

    private record Call(String name, int[] args) {
    }

    private final String title;
    private final List<Call> changes = new ArrayList<>();
    private PictureCanvas canvas = new PictureCanvas();
    private int callsOfObject = 0;

    Run(String title) {
        this.title = title;
    }

    /** A run that tests a sentence of the document. */
    static Run of(String section, String sentence) {
        Document.quote(section, sentence);
        return new Run(section + " \"" + sentence + "\"");
    }

    void due(Object want, String name, int... args) {
        String got = answer(name, args);
        if (!got.equals(String.valueOf(want))) {
            report(name, args, "answered " + got + ", due is " + want);
        }
    }

    /** The four edges in turn: what 0 .. 3 behind the arguments. */
    void dueEdges(int x0, int y0, int x1, int y1, String name, int... args) {
        int[] edges = {x0, y0, x1, y1};
        for (int what = 0; what < edges.length; what++) {
            due(edges[what], name, with(args, what));
        }
    }

    /** The call with the argument of that index one below what it is here, as it is, one above. */
    void dueAround(Object below, Object at, Object above, int index, String name, int... args) {
        Object[] wants = {below, at, above};
        for (int step = -1; step <= 1; step++) {
            int[] moved = args.clone();
            moved[index] += step;
            dueOrRefused(wants[step + 1], name, moved);
        }
    }

    /** As due, and a call that is to throw changes nothing. */
    void dueOrRefused(Object want, String name, int... args) {
        if (want instanceof String text && text.startsWith("throws.")) {
            refused(text, name, args);
        } else {
            due(want, name, args);
        }
    }

    /** A call that throws, and changes nothing. */
    void refused(String want, String name, int... args) {
        // Both views of one object, with no new one between them.
        if (callsOfObject > CALLS_OF_ONE_OBJECT - 2 * CALLS_OF_VIEW - 1) {
            startAnew();
        }
        List<String> before = view();
        due(want, name, args);
        if (!before.equals(view())) {
            report(name, args, "throws but changes something");
        }
    }

    /** Answers that would be others if the picture, tiles or components were. */
    private List<String> view() {
        List<String> seen = new ArrayList<>();
        int start = callsOfObject;
        for (int t : new int[] {0, 1, 5, 11, 12}) {
            for (int what = 0; what <= 3; what++) {
                seen.add(answer("tile", t, what));
            }
        }
        for (int c = 0; c <= 16; c++) {
            seen.add(answer("part", 0, c, 2));
            seen.add(answer("part", 0, c, 3));
        }
        for (int c : new int[] {0, 1, 15}) {
            for (int r = 0; r <= 3; r++) {
                seen.add(answer("part", 0, c, r));
                seen.add(answer("level", 0, c, r, 4));
                seen.add(answer("level", 0, c, r, 5));
                seen.add(answer("band", 0, c, r, r == 0 ? 0 : 1, 4));
                seen.add(answer("band", 0, c, r, r == 0 ? 0 : 1, 5));
            }
        }
        if (callsOfObject - start > CALLS_OF_VIEW) {
            throw new AssertionError("a view takes more calls than is reckoned with");
        }
        return seen;
    }

    String answer(String name, int... args) {
        if (callsOfObject >= CALLS_OF_ONE_OBJECT) {
            startAnew();
        }
        String got = answerOf(name, args);
        boolean changed = Model.CHANGES.contains(name) && !got.startsWith("throws.");
        if (changed) {
            changes.add(new Call(name, args.clone()));
        }
        return got;
    }

    /** The answer as a number; a call that throws is reported and counts as -1. */
    int number(String name, int... args) {
        String got = answer(name, args);
        if (got.startsWith("throws.")) {
            report(name, args, got);
            return -1;
        }
        return Integer.parseInt(got);
    }

    int callsOfObject() {
        return callsOfObject;
    }

    void report(String name, int[] args, String fault) {
        wrong++;
        if (wrong <= MOST_PRINTED) {
            System.out.println(title + ": " + shown(name, args) + " " + fault);
        }
    }

    static int[] with(int[] args, int... more) {
        int[] all = java.util.Arrays.copyOf(args, args.length + more.length);
        System.arraycopy(more, 0, all, args.length, more.length);
        return all;
    }

    /** Ends the test; of the sections that are named, the runs must name every sentence. */
    static void finish(String... wholeSections) {
        wrong += Document.faults(wholeSections);
        System.out.println(calls + " calls, " + wrong + " wrong");
        if (wrong != 0 || calls == 0) {
            System.exit(1);
        }
    }

    /** Nothing is promised of an object after its 512th call: a new one is brought as far. */
    private void startAnew() {
        canvas = new PictureCanvas();
        callsOfObject = 0;
        for (Call change : changes) {
            answerOf(change.name(), change.args());
        }
    }

    private String answerOf(String name, int[] args) {
        calls++;
        callsOfObject++;
        Object[] boxed = new Object[args.length];
        for (int i = 0; i < args.length; i++) {
            boxed[i] = args[i];
        }
        try {
            Object got = METHODS.get(name).invoke(canvas, boxed);
            return got == null ? DONE : got.toString();
        } catch (InvocationTargetException e) {
            return "throws." + e.getCause().getClass().getSimpleName();
        } catch (IllegalAccessException e) {
            return e.toString();
        }
    }

    private static Map<String, Method> methods() {
        Map<String, Method> methods = new HashMap<>();
        for (Method method : PictureCanvas.class.getDeclaredMethods()) {
            methods.put(method.getName(), method);
        }
        return methods;
    }

    private static String shown(String name, int[] args) {
        String list = java.util.Arrays.toString(args);
        return name + "(" + list.substring(1, list.length() - 1) + ")";
    }
}
