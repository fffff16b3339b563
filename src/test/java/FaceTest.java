import java.io.IOException;
import java.lang.reflect.Constructor;
import java.lang.reflect.Field;
import java.lang.reflect.Method;
import java.lang.reflect.Modifier;
import java.nio.file.Files;
import java.nio.file.Path;
import java.util.Arrays;
import java.util.Map;
import java.util.Set;
import java.util.TreeMap;
import java.util.TreeSet;
import java.util.regex.Matcher;
import java.util.regex.Pattern;
import java.util.stream.Collectors;

/** The face of the class is the document's, and its file keeps to what a look at the text can tell of LANGUAGE.md. */
public final class FaceTest {
    private static final Check CHECK = new Check("FaceTest");
    private static final int MOST_DEEP = 8;
    private static final Path SOURCE = Path.of("src/main/java/ArchTrades.java");
    private static final String[] FACE = {
        "row(int,int,int)", "set(int,int,int)", "copy(int,int,int,int,int)", "drop(int)", "feed(long,int)", "bridge()",
        "fault()", "lend(int,int,int)", "shut(int,int)", "pass(int,int)", "split(int,int)", "hour()", "undo()",
        "arch(int,int)", "boat(int,int)", "may(int,int)", "most(int,int,int)", "anew(int,int,int)", "cut(int,int)",
        "weighed(int,int)", "image(int)", "restore(int)", "kind(int)", "as(int,int)", "ask(int,int)", "trace(int)",
        "count(int)", "status()"};

    private FaceTest() {
    }

    public static void main(String[] args) throws IOException {
        constants();
        methods();
        inside();
        String bare = bare(Files.readString(SOURCE));
        text(bare);
        bodies(bare);
        CHECK.end();
    }

    private static void constants() {
        CHECK.due("NONE", ArchTrades.NONE, -1000000);
        CHECK.due("BAD", ArchTrades.BAD, -1000001);
        CHECK.due("STATE", ArchTrades.STATE, -1000002);
        CHECK.due("FULL", ArchTrades.FULL, -1000003);
        Set<String> open = new TreeSet<>();
        for (Field f : ArchTrades.class.getDeclaredFields()) {
            if (!Modifier.isPrivate(f.getModifiers())) {
                open.add(f.getName());
            }
            CHECK.holds("a static field is final: " + f, !Modifier.isStatic(f.getModifiers()) || Modifier.isFinal(f.getModifiers()));
        }
        CHECK.holds("open fields: " + open, open.equals(Set.of("NONE", "BAD", "STATE", "FULL")));
    }

    private static void methods() {
        CHECK.holds("public and final", ArchTrades.class.getModifiers() == (Modifier.PUBLIC | Modifier.FINAL));
        Constructor<?>[] made = ArchTrades.class.getDeclaredConstructors();
        CHECK.holds("one constructor", made.length == 1 && Modifier.isPublic(made[0].getModifiers()) && made[0].getParameterCount() == 0);
        Set<String> open = new TreeSet<>();
        for (Method m : ArchTrades.class.getDeclaredMethods()) {
            if (Modifier.isPrivate(m.getModifiers())) {
                continue;
            }
            CHECK.holds("public: " + m, m.getModifiers() == Modifier.PUBLIC && m.getReturnType() == int.class);
            open.add(Arrays.stream(m.getParameterTypes()).map(Class::getName).collect(Collectors.joining(",", m.getName() + "(", ")")));
        }
        CHECK.holds("the face: " + open, open.equals(new TreeSet<>(Arrays.asList(FACE))));
    }

    private static void inside() {
        Class<?>[] classes = ArchTrades.class.getDeclaredClasses();
        CHECK.holds("at most twelve classes", classes.length + 1 <= 12);
        for (Class<?> c : classes) {
            CHECK.holds("static: " + c, Modifier.isStatic(c.getModifiers()) && !Modifier.isPublic(c.getModifiers()));
            long fields = Arrays.stream(c.getDeclaredFields()).filter(f -> !Modifier.isStatic(f.getModifiers())).count();
            CHECK.holds("fields of " + c + ": " + fields, fields <= 20);
            for (Method m : c.getDeclaredMethods()) {
                CHECK.holds("no name of the face: " + m, !names().contains(m.getName()));
                CHECK.holds("seven parameters at most: " + m, m.getParameterCount() <= 7);
            }
        }
    }

    /** The text without comments, and without what stands in texts. */
    private static String bare(String source) {
        return source.replaceAll("(?s)/\\*.*?\\*/", " ").replaceAll("//[^\n]*", " ").replaceAll("\"[^\"]*\"", "\"\"");
    }

    private static void text(String bare) {
        for (String word : new String[] {"throw", "throws", "try", "catch", "synchronized", "assert", "package", "->", "::", "...",
            "Exact(", "toString", "hashCode", "Random", "System.out", "System.nano", "System.current", "Thread", "var "}) {
            CHECK.holds("without " + word, !found(bare, word));
        }
        Matcher imports = Pattern.compile("import ([^;]*);").matcher(bare);
        while (imports.find()) {
            String name = imports.group(1).trim();
            CHECK.holds("import " + name, Set.of("java.util.Arrays", "java.util.ArrayList", "java.util.List").contains(name));
        }
        int open = 0;
        for (String line : bare.split("\n")) {
            boolean begins = line.matches(" {4,8}(?! )[^=;]*\\) \\{");
            open = begins ? 1 : open == 0 ? 0 : line.matches(" {4,8}\\}") ? 0 : open + 1;
            CHECK.holds("a method of sixty lines at most: " + line, open <= 60);
        }
    }

    /**
     * Calls that are no recursion go at most eight deep, and none makes an object. Methods of one name are taken as
     * one, so that this can tell too deep a call, never one that is not deep enough.
     */
    private static void bodies(String bare) {
        Map<String, String> bodies = new TreeMap<>();
        Matcher methods = Pattern.compile("(?ms)^( {4}| {8})(?:\\w+ )*\\w+ (\\w+)\\([^)]*\\) \\{\n(.*?)^\\1\\}").matcher(bare);
        while (methods.find()) {
            bodies.merge(methods.group(2), methods.group(3), String::concat);
        }
        CHECK.holds("every call of the face has been read", bodies.keySet().containsAll(names()));
        // All calls of a run live in one room: what a call made would be counted as often as it is called.
        bodies.forEach((name, body) -> CHECK.holds("no call makes an object: " + name, !found(body, "new")));
        Map<String, Set<String>> calls = new TreeMap<>();
        bodies.forEach((name, body) -> calls.put(name, called(body, bodies.keySet())));
        for (String name : names()) {
            int deep = deepest(name, calls, new TreeSet<>());
            CHECK.holds("calls from " + name + " on go " + deep + " deep", deep <= MOST_DEEP);
        }
    }

    private static Set<String> called(String body, Set<String> own) {
        Set<String> found = new TreeSet<>();
        Matcher calls = Pattern.compile("(\\w+)\\(").matcher(body);
        while (calls.find()) {
            if (own.contains(calls.group(1))) {
                found.add(calls.group(1));
            }
        }
        return found;
    }

    private static int deepest(String name, Map<String, Set<String>> calls, Set<String> open) {
        int below = 0;
        open.add(name);
        for (String next : calls.get(name)) {
            below = open.contains(next) ? below : Math.max(below, deepest(next, calls, open));
        }
        open.remove(name);
        return 1 + below;
    }

    private static Set<String> names() {
        return Arrays.stream(FACE).map(s -> s.substring(0, s.indexOf('('))).collect(Collectors.toSet());
    }

    private static boolean found(String text, String word) {
        boolean isName = word.chars().allMatch(Character::isLetter);
        return isName ? Pattern.compile("\\b" + word + "\\b").matcher(text).find() : text.contains(word);
    }
}
