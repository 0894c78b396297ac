import java.io.IOException;
import java.lang.reflect.Method;
import java.lang.reflect.Modifier;
import java.nio.file.Files;
import java.nio.file.Path;
import java.util.Arrays;
import java.util.HashSet;
import java.util.Set;
import java.util.regex.Matcher;
import java.util.regex.Pattern;

/** The calls that README.md shows, made one after the other on one object, answer what it says. */
public final class ReadmeTest {
    private static final Path FILE = Path.of("README.md");
    private static final Pattern CALL = Pattern.compile(
            "^canvas\\.(\\w+)\\(([^)]*)\\);\\s*// (?:= (\\d+):|throws (\\w+):)?.*$",
            Pattern.MULTILINE);

    public static void main(String[] args) throws IOException {
        Run run = new Run("README.md");
        Set<String> shown = new HashSet<>();
        String text = Files.readString(FILE);
        Matcher call = CALL.matcher(text);
        int calls = 0;
        while (call.find()) {
            calls++;
            shown.add(call.group(1));
            run.due(due(call), call.group(1), numbers(call.group(2)));
        }
        if (calls != linesThatCall(text)) {
            run.report("README.md", new int[0], "has a call that this test can't read");
        }
        for (Method method : PictureCanvas.class.getDeclaredMethods()) {
            if (Modifier.isPublic(method.getModifiers()) && !shown.contains(method.getName())) {
                run.report(method.getName(), new int[0], "is not in README.md");
            }
        }
        Run.finish();
    }

    private static String due(Matcher call) {
        if (call.group(3) != null) {
            return call.group(3);
        }
        return call.group(4) != null ? "throws." + call.group(4) : Run.DONE;
    }

    private static int[] numbers(String list) {
        return Arrays.stream(list.split(", ")).mapToInt(Integer::parseInt).toArray();
    }

    private static int linesThatCall(String text) {
        return (int) text.lines().filter(line -> line.contains("canvas.")).count();
    }
}
