import java.io.IOException;
import java.lang.reflect.Constructor;
import java.lang.reflect.Method;
import java.nio.charset.StandardCharsets;
import java.nio.file.Files;
import java.nio.file.Path;
import java.util.ArrayList;
import java.util.List;
import java.util.Map;
import java.util.TreeMap;
import java.util.regex.Matcher;
import java.util.regex.Pattern;

/** 'The public face' and the headings of the promises, word by word as ../shared/DOC.md has them. */
public final class FaceTest {
    private static final Path DOCUMENT = Path.of("..", "shared", "DOC.md");
    private static final Pattern FACE = Pattern.compile("(?s)## The public face\\s+```java\n(.*?)```");
    private static final Pattern PROMISE = Pattern.compile("(?m)^## Promise (\\d+): (.+)\n\n`(?:int )?(\\w+\\([^)]*\\))`:");
    private static final Checks checks = new Checks();

    public static void main(String[] args) throws IOException {
        String document = Files.readString(DOCUMENT, StandardCharsets.UTF_8);
        String source = Files.readString(Path.of(args[0]), StandardCharsets.UTF_8);
        Matcher face = FACE.matcher(document);
        good("the document has a face", face.find());
        List<String> calls = new ArrayList<>();
        for (String line : face.group(1).split("\n")) {
            String told = line.strip();
            if (told.startsWith("public static final int ")) {
                constants(told.substring(24, told.length() - 1), source);
            } else if (told.startsWith("public int ") || told.startsWith("public CardBand(")) {
                calls.add(told.replaceFirst("public (int )?", "").replace(";", ""));
            } else {
                good("a line of the face: " + told, told.equals("}") || source.contains(told));
            }
        }
        calls(calls, source);
        promises(document, calls);
        checks.end();
    }

    private static void good(String what, boolean so) {
        checks.due(what, so ? 1 : 0, 1);
    }

    private static void constants(String told, String source) {
        good("the constants stand as told", source.contains("public static final int " + told + ";"));
        Map<String, Integer> values = new TreeMap<>(Map.of("NONE", CardBand.NONE, "UNKNOWN", CardBand.UNKNOWN,
            "OUTSIDE", CardBand.OUTSIDE, "NOT", CardBand.NOT, "FULL", CardBand.FULL));
        for (String one : told.split(", ")) {
            String[] parts = one.split(" = ");
            good("the constant " + parts[0], values.containsKey(parts[0]));
            checks.due(parts[0], values.getOrDefault(parts[0], 0), Integer.parseInt(parts[1]));
            values.remove(parts[0]);
        }
        good("no other constant than " + told, values.isEmpty());
    }

    private static void calls(List<String> calls, String source) {
        int at = 0;
        for (String call : calls) {
            String head = "public " + (call.startsWith("CardBand") ? "" : "int ") + call + " {";
            int found = source.indexOf(head, at);
            good("behind the call ahead of it stands " + head, found >= 0);
            at = Math.max(at, found);
        }
        int open = 0;
        for (Method method : CardBand.class.getDeclaredMethods()) {
            open += java.lang.reflect.Modifier.isPublic(method.getModifiers()) ? 1 : 0;
        }
        Constructor<?>[] made = CardBand.class.getConstructors();
        checks.due("public methods and constructors", open + made.length, calls.size());
        checks.due("parameters of the constructor", made[0].getParameterCount(), 0);
    }

    /** Each promise is of the call that stands at its place in the face. */
    private static void promises(String document, List<String> calls) {
        Matcher promise = PROMISE.matcher(document);
        int count = 0;
        while (promise.find()) {
            count++;
            checks.promise(count);
            checks.due("the number", Integer.parseInt(promise.group(1)), count);
            good("the call " + promise.group(3), count <= calls.size() && calls.get(count - 1).equals(promise.group(3)));
        }
        checks.due("promises", count, 36);
    }
}
