import java.io.IOException;
import java.lang.reflect.Method;
import java.nio.charset.StandardCharsets;
import java.nio.file.Files;
import java.nio.file.Path;
import java.util.ArrayList;
import java.util.BitSet;
import java.util.List;
import java.util.Map;
import java.util.TreeMap;
import java.util.regex.Matcher;
import java.util.regex.Pattern;

/**
 * The tests at the edges against ../shared/DOC.md: each is named after a promise, quotes words that stand
 * there or in 'Terms', and all words of 'Terms' and of the promises are quoted by some test.
 */
public final class DocumentTest {
    private static final Path DOCUMENT = Path.of("..", "shared", "DOC.md");
    private static final List<Class<?>> TESTS = List.of(LoomEdgesTest.class, TextEdgesTest.class, CardEdgesTest.class,
        DeedsEdgesTest.class, TriedEdgesTest.class, BandEdgesTest.class, SeenEdgesTest.class, ImagesEdgesTest.class);
    /** Words that bound nothing by themselves: how the document is to be read. */
    private static final List<String> READING = List.of(
        "## Terms", "Words in capitals are told where they come first.");
    private static final Pattern NAME = Pattern.compile("promise(\\d\\d)_(terms(\\d)_)?\\w+");
    private static final Checks checks = new Checks();

    public static void main(String[] args) throws IOException {
        Map<String, String> sections = sectionsOf(Files.readString(DOCUMENT, StandardCharsets.UTF_8));
        checks.due("promises and sections of 'Terms'", sections.size(), 36 + 4);
        Map<String, BitSet> quoted = new TreeMap<>();
        for (String section : sections.keySet()) {
            quoted.put(section, new BitSet());
        }
        for (Class<?> tests : TESTS) {
            for (Method method : Edge.testsOf(tests)) {
                checkTest(method, sections, quoted);
            }
        }
        for (String section : sections.keySet()) {
            allQuoted(section, sections.get(section), quoted.get(section));
        }
        checks.end();
    }

    private static void good(String what, boolean so) {
        checks.due(what, so ? 1 : 0, 1);
    }

    /** 'Terms' ahead of its sections is terms0; white space is one blank each. */
    private static Map<String, String> sectionsOf(String document) {
        Map<String, String> sections = new TreeMap<>();
        int from = document.indexOf("## Terms");
        int to = document.indexOf("## Not promised");
        Matcher heading = Pattern.compile("(?m)^(======== (\\d) |## Promise (\\d+): [^\n]*)").matcher(document);
        String name = "terms0";
        int begin = from;
        for (boolean found = heading.find(from); found; found = heading.find()) {
            sections.put(name, plain(document.substring(begin, heading.start())));
            name = heading.group(2) != null ? "terms" + heading.group(2) : promise(Integer.parseInt(heading.group(3)));
            begin = heading.end();
        }
        sections.put(name, plain(document.substring(begin, to)));
        return sections;
    }

    private static String promise(int number) {
        return "promise" + number / 10 + number % 10;
    }

    private static String plain(String text) {
        return text.replaceAll("```\\w*|(?m)^`[^`]*`:|Ahead of the calls [^:]*: ---- [^\n]*", " ").replaceAll("\\s+", " ");
    }

    private static void checkTest(Method method, Map<String, String> sections, Map<String, BitSet> quoted) {
        Matcher name = NAME.matcher(method.getName());
        good(method.getName() + " is named after a promise", name.matches());
        Says says = method.getAnnotation(Says.class);
        good(method.getName() + " quotes the document", says != null);
        if (says == null || !name.matches()) {
            return;
        }
        List<String> where = new ArrayList<>(List.of("promise" + name.group(1), "terms0", "terms1", "terms2", "terms3"));
        boolean ofItsSection = false;
        for (String words : says.value()) {
            boolean found = false;
            for (String section : where) {
                int at = sections.getOrDefault(section, "").indexOf(words);
                if (at >= 0) {
                    found = true;
                    ofItsSection |= name.group(3) == null ? section.startsWith("promise") : section.equals("terms" + name.group(3));
                    mark(words, sections.get(section), quoted.get(section));
                }
            }
            good(method.getName() + ": the document says '" + words + "'", found);
        }
        good(method.getName() + " quotes the section that it is named after", ofItsSection);
    }

    private static void mark(String words, String section, BitSet quoted) {
        for (int at = section.indexOf(words); at >= 0; at = section.indexOf(words, at + 1)) {
            quoted.set(at, at + words.length());
        }
    }

    private static void allQuoted(String name, String section, BitSet quoted) {
        for (String words : READING) {
            mark(words, section, quoted);
        }
        for (int i = 0; i < section.length(); i++) {
            if (!Character.isLetterOrDigit(section.charAt(i))) {
                continue;
            }
            if (!quoted.get(i)) {
                int end = Math.min(section.length(), i + 1);
                while (end < section.length() && !quoted.get(end)) {
                    end++;
                }
                good(name + ": a test quotes '" + section.substring(i, end).strip() + "'", false);
                i = end;
            }
        }
        good(name + " has words", section.length() > 5);
    }
}
