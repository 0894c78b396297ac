import java.io.IOException;
import java.nio.file.Files;
import java.nio.file.Path;
import java.util.ArrayList;
import java.util.List;
import java.util.Map;
import java.util.TreeMap;
import java.util.regex.Matcher;
import java.util.regex.Pattern;

/**
 * The document by sections, to see that each sentence that a test names stands there, and that the
 * tests of a section leave out none of its sentences.
 */
final class Document {
    private static final Path FILE = Path.of("..", "shared", "DOC.md");
    private static final Pattern HEADING = Pattern.compile("^## (Promise \\d+|[^:\\n]+).*$",
            Pattern.MULTILINE);
    /** Not the dots of "1 .. 9", which tell a range. */
    private static final Pattern SENTENCE = Pattern.compile(".+?(?<!\\.)[.;](?= |$)");

    private record Quote(String section, String sentence) {
    }

    private static final List<Quote> QUOTES = new ArrayList<>();

    private Document() {
    }

    static void quote(String section, String sentence) {
        QUOTES.add(new Quote(section, sentence));
    }

    /** How many quotes do not stand in the document, and sentences of the sections in no quote. */
    static int faults(String... wholeSections) {
        if (!Files.isReadable(FILE)) {
            System.out.println(FILE + " is not here: what the tests quote of it is not looked up");
            return 0;
        }
        Map<String, String> sections = sections();
        int faults = 0;
        for (Quote quote : QUOTES) {
            if (!sections.getOrDefault(quote.section, "").contains(quote.sentence)) {
                faults++;
                System.out.println(quote.section + " does not say: " + quote.sentence);
            }
        }
        for (String section : wholeSections) {
            faults += leftOut(section, sections.getOrDefault(section, ""));
        }
        return faults;
    }

    /** What the section says, in one line; nothing if the document is not here. */
    static String section(String name) {
        return Files.isReadable(FILE) ? sections().getOrDefault(name, "") : "";
    }

    private static int leftOut(String section, String text) {
        int count = 0;
        Matcher sentence = SENTENCE.matcher(text);
        while (sentence.find()) {
            if (!isQuoted(section, text, sentence.start(), sentence.end())) {
                count++;
                System.out.println(section + ", no test names: " + sentence.group().trim());
            }
        }
        return count;
    }

    /** Whether a quote has some of the text from start to end. */
    private static boolean isQuoted(String section, String text, int start, int end) {
        for (Quote quote : QUOTES) {
            int at = text.indexOf(quote.sentence);
            boolean inside = at >= 0 && at < end && at + quote.sentence.length() > start;
            if (quote.section.equals(section) && inside) {
                return true;
            }
        }
        return false;
    }

    private static Map<String, String> sections() {
        String text = read();
        Map<String, String> sections = new TreeMap<>();
        Matcher heading = HEADING.matcher(text);
        String name = null;
        int start = 0;
        while (heading.find()) {
            if (name != null) {
                sections.put(name, plain(text.substring(start, heading.start())));
            }
            name = heading.group(1);
            start = heading.end();
        }
        if (name != null) {
            sections.put(name, plain(text.substring(start)));
        }
        return sections;
    }

    private static String plain(String text) {
        return text.replaceAll("(?m)^```.*$", "").replaceAll("\\s+", " ").trim();
    }

    private static String read() {
        try {
            return Files.readString(FILE);
        } catch (IOException e) {
            throw new IllegalStateException("the document can't be read", e);
        }
    }
}
