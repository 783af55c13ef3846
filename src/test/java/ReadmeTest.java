import java.io.IOException;
import java.lang.reflect.Method;
import java.lang.reflect.Modifier;
import java.nio.charset.StandardCharsets;
import java.nio.file.Files;
import java.nio.file.Path;
import java.util.List;
import java.util.Map;
import java.util.TreeMap;
import java.util.regex.Matcher;
import java.util.regex.Pattern;
import java.util.stream.Stream;

/** README.md says how the class is used and how its tests are run: its example, its numbers, its names hold. */
public final class ReadmeTest {
    private static final Path README = Path.of("README.md"), TESTS = Path.of("src", "test", "java");
    private static final Pattern EXAMPLE = Pattern.compile("(?s)```java\n(.*?)```");
    private static final Pattern ANSWER = Pattern.compile("int (\\w+) = .*;\\s+// (-?\\d+)");
    private static final Checks checks = new Checks();

    public static void main(String[] args) throws IOException {
        String readme = Files.readString(README, StandardCharsets.UTF_8);
        Matcher example = EXAMPLE.matcher(readme);
        good("README.md has an example", example.find());
        sameLines(example.group(1), Files.readString(TESTS.resolve("ReadmeTest.java"), StandardCharsets.UTF_8));
        example(answersOf(example.group(1)));
        refusals(readme);
        faults(readme);
        names(readme);
        checks.end();
    }

    private static void good(String what, boolean so) {
        checks.due(what, so ? 1 : 0, 1);
    }

    /** The example is the code of example() below, but for what it says of the answers. */
    private static void sameLines(String example, String own) {
        int at = own.indexOf("// the lines of README.md");
        for (String line : example.split("\n")) {
            String code = line.replaceAll("\\s*//.*", "").strip();
            int found = own.indexOf(code, at);
            good("the line " + code + " is tried here", found >= 0);
            at = Math.max(at, found);
        }
    }

    private static Map<String, Integer> answersOf(String example) {
        Map<String, Integer> answers = new TreeMap<>();
        Matcher answer = ANSWER.matcher(example);
        while (answer.find()) {
            answers.put(answer.group(1), Integer.parseInt(answer.group(2)));
        }
        return answers;
    }

    private static void example(Map<String, Integer> told) {
        // the lines of README.md
        CardBand band = new CardBand();
        String text = "l2; c0 1 0 1 0; c1 0 1 0 1; k1; k2; y1 40;";
        for (int i = 0; i < text.length(); i++) {
            band.feed(text.charAt(i));
        }
        int cards = band.loom();
        int picks = band.pick(7, 4);
        int shows = band.card(0, 7);
        int slants = band.card(1, 8);
        int left = band.yarn(1);
        int pairs = band.alike(-1);
        int refused = band.yarn(2);
        int tooMany = band.pick(7, 0);
        int taken = band.undo(4);
        int none = band.card(0, 7);
        Map<String, Integer> got = new TreeMap<>(Map.of("cards", cards, "picks", picks, "shows", shows, "slants", slants,
            "left", left, "pairs", pairs, "refused", refused, "tooMany", tooMany, "taken", taken, "none", none));
        good("README.md tells each answer: " + told.keySet(), told.keySet().equals(got.keySet()));
        for (String name : got.keySet()) {
            checks.due("README.md tells " + name, told.getOrDefault(name, 0), got.get(name));
        }
    }

    private static void refusals(String readme) {
        good("UNKNOWN", readme.contains("| `UNKNOWN` | " + CardBand.UNKNOWN + " |"));
        good("OUTSIDE", readme.contains("| `OUTSIDE` | " + CardBand.OUTSIDE + " |"));
        good("NOT", readme.contains("| `NOT` | " + CardBand.NOT + " |"));
        good("FULL", readme.contains("| `FULL` | " + CardBand.FULL + " |"));
        good("NONE", readme.contains("`NONE` (" + CardBand.NONE));
        good("how a refusal is told from an answer", readme.contains("`answer <= CardBand.UNKNOWN` is a refusal"));
        for (int refusal : new int[] {CardBand.UNKNOWN, CardBand.OUTSIDE, CardBand.NOT, CardBand.FULL}) {
            good(refusal + " is a refusal by that", refusal <= CardBand.UNKNOWN);
        }
    }

    /** One text for each of the four faults: the answers of loom() that README.md tells. */
    private static void faults(String readme) {
        good("the answers with a fault", readme.contains("(-11 .. -14)"));
        List<String> texts = List.of("x", "l9;", "l1;l1;", "l1;c0 0 0 0 0;k1;k1;");
        for (int i = 0; i < texts.size(); i++) {
            CardBand x = new CardBand();
            Checks.feedAll(x, texts.get(i));
            int answer = x.loom();
            checks.due("loom() of " + texts.get(i), answer, -11 - i);
            good("it is no refusal", answer > CardBand.UNKNOWN);
        }
    }

    private static void names(String readme) throws IOException {
        for (Method method : CardBand.class.getDeclaredMethods()) {
            if (Modifier.isPublic(method.getModifiers())) {
                good(method.getName() + " is named", readme.contains("`" + method.getName() + "`"));
            }
        }
        try (Stream<Path> files = Files.list(TESTS)) {
            for (Path file : files.toList()) {
                String name = file.getFileName().toString().replace(".java", "");
                good(name + " is named", !name.endsWith("Test") || readme.contains("`" + name + "`"));
            }
        }
        good("how the tests are run", readme.contains("```sh\n.ci/run\n```"));
        good("which program", readme.contains("`src/main/java/CardBand.java`"));
    }
}
