import java.io.IOException;
import java.lang.reflect.Field;
import java.lang.reflect.Method;
import java.lang.reflect.Modifier;
import java.nio.charset.StandardCharsets;
import java.nio.file.Files;
import java.nio.file.Path;
import java.util.ArrayList;
import java.util.List;
import java.util.Map;
import java.util.Set;
import java.util.TreeMap;
import java.util.TreeSet;
import java.util.regex.Matcher;
import java.util.regex.Pattern;

/** Rules of ../shared/LANGUAGE.md that can be read off the source and the compiled class. */
public final class LanguageTest {
    private static final Set<String> FACE = new TreeSet<>(List.of(
        "feed(int)", "loom()", "fault()", "told(int)", "card(int,int)", "pack(int)", "yarn(int)", "row(int,int)",
        "pick(int,int)", "flip(int)", "shift(int,int)", "buy(int,int)", "drift(int)", "undo(int)",
        "ahead(int,int,int)", "lasts(int,int)", "untwist(int)", "home(int)", "together(int,int,int)", "repeat()",
        "floats(int)", "alike(int)", "shown(int)", "turned(int,int)", "share(int,int)", "plain(int,int)",
        "see(int,int,int)", "holes(int)", "lookAt(int)", "write(int,int)", "judge()", "tear()",
        "seed(int)", "keep(int)", "goBack(int)"));
    private static final Checks checks = new Checks();

    public static void main(String[] args) throws IOException {
        String source = Files.readString(Path.of(args[0]), StandardCharsets.ISO_8859_1);
        face();
        names();
        words(source);
        lengths(source);
        depths(source);
        classes();
        checks.end();
    }

    private static void good(String what, boolean so) {
        checks.due(what, so ? 1 : 0, 1);
    }

    private static void face() {
        Class<?> face = CardBand.class;
        good("the class is public and final", Modifier.isPublic(face.getModifiers()) && Modifier.isFinal(face.getModifiers()));
        Set<String> found = new TreeSet<>();
        for (Method method : face.getDeclaredMethods()) {
            if (Modifier.isPublic(method.getModifiers())) {
                StringBuilder types = new StringBuilder();
                for (Class<?> type : method.getParameterTypes()) {
                    types.append(types.length() == 0 ? "" : ",").append(type.getName());
                }
                found.add(method.getName() + "(" + types + ")");
                good(method.getName() + " answers an int", method.getReturnType() == int.class);
                good(method.getName() + " is of the object", !Modifier.isStatic(method.getModifiers()));
            } else {
                good(method.getName() + " is private", Modifier.isPrivate(method.getModifiers()) || method.isSynthetic());
            }
        }
        good("the face is the document's: " + found, found.equals(FACE));
        Set<String> constants = new TreeSet<>();
        for (Field field : face.getDeclaredFields()) {
            if (Modifier.isPublic(field.getModifiers())) {
                constants.add(field.getName());
            } else {
                good(field.getName() + " is private", Modifier.isPrivate(field.getModifiers()));
            }
        }
        good("the constants: " + constants, constants.equals(Set.of("NONE", "UNKNOWN", "OUTSIDE", "NOT", "FULL")));
        good("one constructor", face.getConstructors().length == 1 && face.getDeclaredConstructors().length == 1);
    }

    private static void names() {
        Set<String> open = new TreeSet<>();
        for (String call : FACE) {
            open.add(call.substring(0, call.indexOf('(')));
        }
        for (Class<?> inside : CardBand.class.getDeclaredClasses()) {
            for (Method method : inside.getDeclaredMethods()) {
                good(inside.getSimpleName() + "." + method.getName() + " has a name of its own", !open.contains(method.getName()));
                good(inside.getSimpleName() + "." + method.getName() + " has at most seven parameters", method.getParameterCount() <= 7);
            }
        }
        for (Method method : CardBand.class.getDeclaredMethods()) {
            good(method.getName() + " has a name of its own",
                Modifier.isPublic(method.getModifiers()) || !open.contains(method.getName()));
        }
    }

    private static void words(String source) {
        for (int i = 0; i < source.length(); i++) {
            char sign = source.charAt(i);
            if (sign != '\n' && (sign < 32 || sign > 126)) {
                good("a plain sign at " + i, false);
            }
        }
        String code = source.replaceAll("(?s)/\\*.*?\\*/", " ").replaceAll("//[^\n]*", " ");
        String[] forbidden = {"\\bthrows?\\b", "\\btry\\b", "\\bcatch\\b", "\\bsynchronized\\b", "\\bassert\\b", "\\bprotected\\b",
            "\\bvolatile\\b", "->", "::", "Exact\\b", "\\bequals\\(", "\\bhashCode\\b", "\\btoString\\b", "^package",
            "\\bstatic\\s*\\{", "\\bfloat\\b", "\\bdouble\\b", "\\bObject\\b", "\\bString\\b", "\\binstanceof\\b", "\\bnative\\b"};
        for (String word : forbidden) {
            good("nothing like " + word, !Pattern.compile(word, Pattern.MULTILINE).matcher(code).find());
        }
        Set<String> library = new TreeSet<>();
        Matcher matcher = Pattern.compile("\\b(System|Arrays|Math|Integer|Long)\\.\\w+").matcher(code);
        while (matcher.find()) {
            library.add(matcher.group());
        }
        library.removeAll(Set.of("System.arraycopy", "Arrays.fill", "Math.min", "Math.max", "Math.abs", "Math.floorMod", "Integer.bitCount"));
        good("no other library: " + library, library.isEmpty());
        Matcher imports = Pattern.compile("import ([^;]*);").matcher(code);
        while (imports.find()) {
            good("import " + imports.group(1), imports.group(1).equals("java.util.Arrays"));
        }
        Matcher made = Pattern.compile("\\bnew (\\w+)").matcher(code);
        while (made.find()) {
            good("made: " + made.group(1), Set.of("int", "Telling", "Weave", "Deeds", "Notes", "Image", "Threading").contains(made.group(1)));
        }
    }

    private static void lengths(String source) {
        String[] lines = source.split("\n");
        int begun = -1;
        for (int i = 0; i < lines.length; i++) {
            if (lines[i].matches("( {4}| {8})(?!.*\\bclass\\b)[\\w].*\\{")) {
                begun = i;
            }
            if (begun >= 0 && lines[i].matches("( {4}| {8})\\}") && lines[i].indexOf('}') == indent(lines[begun])) {
                good("a short method at line " + (begun + 1), i - begun + 1 <= 60);
                begun = -1;
            }
        }
    }

    /**
     * No call stands open more than eight deep, and none calls itself. Methods are told apart by their names
     * alone, so what is found is at least as deep as what is so. None makes an object: constructors make all.
     */
    private static void depths(String source) {
        Map<String, Set<String>> calls = new TreeMap<>();
        String name = null;
        for (String line : source.replaceAll("(?s)/\\*.*?\\*/", " ").replaceAll("//[^\n]*", " ").split("\n")) {
            Matcher head = Pattern.compile("^(?: {4}| {8})(?:\\w+(?:\\[\\])? )+(\\w+)\\([^;]*\\) \\{$").matcher(line);
            Matcher call = Pattern.compile("\\b(\\w+)\\(").matcher(line);
            if (line.matches(".*\\bclass \\w+ \\{|\\s*(public )?[A-Z]\\w*\\(.*\\) \\{")) {
                name = null;
                continue;
            }
            if (head.matches()) {
                name = head.group(1);
                calls.computeIfAbsent(name, key -> new TreeSet<>());
                continue;
            }
            good(name + " makes nothing: " + line, name == null || !line.matches(".*\\bnew\\b.*"));
            while (name != null && call.find()) {
                calls.get(name).add(call.group(1));
            }
        }
        Set<String> found = new TreeSet<>(calls.keySet());
        good("all methods are found: " + found, found.equals(methodNames()));
        for (String call : FACE) {
            String open = call.substring(0, call.indexOf('('));
            int depth = depthOf(open, calls, 1);
            good(open + " goes eight deep at most: " + depth, depth <= 8);
        }
    }

    private static Set<String> methodNames() {
        List<Class<?>> classes = new ArrayList<>(List.of(CardBand.class.getDeclaredClasses()));
        classes.add(CardBand.class);
        Set<String> names = new TreeSet<>();
        for (Class<?> one : classes) {
            for (Method method : one.getDeclaredMethods()) {
                if (!method.isSynthetic()) {
                    names.add(method.getName());
                }
            }
        }
        return names;
    }

    private static int depthOf(String name, Map<String, Set<String>> calls, int depth) {
        int deepest = depth;
        for (String inner : calls.getOrDefault(name, Set.of())) {
            if (calls.containsKey(inner) && depth < 20) {
                deepest = Math.max(deepest, depthOf(inner, calls, depth + 1));
            }
        }
        return deepest;
    }

    private static int indent(String line) {
        return line.length() - line.stripLeading().length();
    }

    private static void classes() {
        Class<?>[] inside = CardBand.class.getDeclaredClasses();
        good("some twelve classes at most", inside.length + 1 <= 12);
        for (Class<?> one : inside) {
            good(one.getSimpleName() + " is static", Modifier.isStatic(one.getModifiers()));
            good(one.getSimpleName() + " is not open", !Modifier.isPublic(one.getModifiers()) && !Modifier.isProtected(one.getModifiers()));
            countFields(one);
        }
        countFields(CardBand.class);
    }

    private static void countFields(Class<?> one) {
        int fields = 0;
        for (Field field : one.getDeclaredFields()) {
            if (Modifier.isStatic(field.getModifiers())) {
                good(field.getName() + " is final", Modifier.isFinal(field.getModifiers()));
            } else {
                fields++;
            }
        }
        good(one.getSimpleName() + " has some twenty fields at most", fields <= 20);
    }
}
