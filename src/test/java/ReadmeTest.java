import java.io.IOException;
import java.lang.reflect.InvocationTargetException;
import java.lang.reflect.Method;
import java.lang.reflect.Modifier;
import java.nio.file.Files;
import java.nio.file.Path;
import java.util.Set;
import java.util.TreeSet;
import java.util.regex.Matcher;
import java.util.regex.Pattern;

/** The calls that README.md shows, on the text that it shows, answer what it says of them. */
public final class ReadmeTest {
    private static final Check CHECK = new Check("ReadmeTest");
    private static final Pattern CALL = Pattern.compile("(?m)^(x\\.(\\w+)\\(([^)]*)\\)|tell\\(x, text\\)); +// (-?\\d+): ");

    private ReadmeTest() {
    }

    public static void main(String[] args) throws IOException, ReflectiveOperationException {
        String page = Files.readString(Path.of("README.md"));
        ArchTrades x = new ArchTrades();
        String text = block(page, "```text\n");
        String shown = block(page, "```java\nArchTrades x");
        Matcher calls = CALL.matcher(shown);
        int n = 0;
        while (calls.find()) {
            boolean isTold = calls.group(2) == null;
            int got = isTold ? tell(x, text) : called(x, calls.group(2), calls.group(3));
            CHECK.due(calls.group(1), got, Integer.parseInt(calls.group(4)));
            n++;
        }
        // The first line makes the object; every other one is a call that must have been read.
        CHECK.due("lines with a call", n, shown.strip().lines().count() - 1);
        everyCallIsNamed(page);
        CHECK.end();
    }

    private static String block(String page, String begin) {
        int start = page.indexOf(begin) + begin.indexOf('\n') + 1;
        int end = page.indexOf("```", start);
        return page.substring(start, end);
    }

    /** As README.md shows it: byte by byte. */
    private static int tell(ArchTrades x, String text) {
        for (int i = 0; i < text.length(); i++) {
            x.feed(text.charAt(i), 1);
        }
        return x.bridge();
    }

    private static int called(ArchTrades x, String name, String told) throws IllegalAccessException, InvocationTargetException {
        Object[] numbers = told.isBlank() ? new Object[0] : Pattern.compile(", ").splitAsStream(told).map(Integer::valueOf).toArray();
        for (Method m : ArchTrades.class.getMethods()) {
            if (m.getName().equals(name) && m.getParameterCount() == numbers.length) {
                return (Integer) m.invoke(x, numbers);
            }
        }
        throw new IllegalStateException("README.md shows a call that there is not: " + name);
    }

    private static void everyCallIsNamed(String page) {
        Set<String> missing = new TreeSet<>();
        for (Method m : ArchTrades.class.getDeclaredMethods()) {
            if (Modifier.isPublic(m.getModifiers()) && !page.contains("`" + m.getName() + "`")) {
                missing.add(m.getName());
            }
        }
        CHECK.holds("every call is named: " + missing, missing.isEmpty());
    }
}
