import java.io.IOException;
import java.lang.reflect.Method;
import java.lang.reflect.Modifier;
import java.nio.file.Files;
import java.nio.file.Path;
import java.util.ArrayList;
import java.util.List;
import java.util.TreeSet;
import java.util.regex.Matcher;
import java.util.regex.Pattern;
import java.util.stream.Collectors;
import java.util.stream.Stream;

/** What README.md says: its example answers so, and its tables leave out no call, refusal or test. */
public final class ReadmeTest {
    private static final Pattern TEXT = Pattern.compile("String text = \"(\\w+)\";");
    private static final Pattern CALL = Pattern.compile("x\\.(\\w+)\\(([^)]*)\\); +// (-?\\d+): .+");
    private static final Pattern ROW = Pattern.compile("(?m)^\\| `(\\w+)\\(([^)]*)\\)` \\|(.+)\\|(.*)\\|$");
    private static final Pattern REFUSAL = Pattern.compile("UNKNOWN|OUTSIDE|STATE|FULL");

    public static void main(String[] args) throws IOException {
        String page = Files.readString(Path.of("README.md"));
        example(page);
        calls(page);
        refusals(page);
        tests(page);
        Check.end("ReadmeTest");
    }

    private static Method named(String name) {
        for (Method m : FoilBazaar.class.getDeclaredMethods()) {
            if (m.getName().equals(name) && Modifier.isPublic(m.getModifiers())) {
                return m;
            }
        }
        throw new IllegalArgumentException("there is no call " + name);
    }

    private static Object argument(Class<?> type, String told) {
        if (type == boolean.class) {
            return Boolean.valueOf(told);
        }
        if (type == long.class) {
            return Long.valueOf(told.replace("L", ""));
        }
        return Integer.valueOf(told);
    }

    private static long answer(FoilBazaar x, String name, String told) {
        Method m = named(name);
        String[] words = told.isEmpty() ? new String[0] : told.split(", ");
        Object[] arguments = new Object[words.length];
        for (int k = 0; k < words.length; k++) {
            arguments[k] = argument(m.getParameterTypes()[k], words[k]);
        }
        try {
            return ((Number) m.invoke(x, arguments)).longValue();
        } catch (ReflectiveOperationException broken) {
            throw new IllegalStateException("README.md: " + name + "(" + told + ")", broken);
        }
    }

    private static void example(String page) {
        Matcher text = TEXT.matcher(page);
        Check.holds("the example has a text", text.find());
        FoilBazaar x = new FoilBazaar();
        text.group(1).chars().forEach(x::write);
        TreeSet<String> used = new TreeSet<>(List.of("write"));
        Matcher call = CALL.matcher(page);
        while (call.find()) {
            used.add(call.group(1));
            Check.due("README.md: " + call.group().replaceAll(" +", " "), answer(x, call.group(1), call.group(2)),
                Long.parseLong(call.group(3)));
        }
        Check.holds("the example uses all calls: " + used, used.equals(face()));
    }

    private static TreeSet<String> face() {
        TreeSet<String> names = new TreeSet<>();
        for (Method m : FoilBazaar.class.getDeclaredMethods()) {
            if (Modifier.isPublic(m.getModifiers())) {
                names.add(m.getName());
            }
        }
        return names;
    }

    private static void calls(String page) {
        TreeSet<String> named = new TreeSet<>();
        Matcher row = ROW.matcher(page);
        while (row.find()) {
            named.add(row.group(1));
            int told = row.group(2).isEmpty() ? 0 : row.group(2).split(", ").length;
            Check.due("parameters of " + row.group(1), told, named(row.group(1)).getParameterCount());
        }
        Check.holds("the table has all calls and no others: " + named, named.equals(face()));
    }

    private static List<String> refusalsIn(String words) {
        List<String> found = new ArrayList<>();
        Matcher refusal = REFUSAL.matcher(words);
        while (refusal.find()) {
            found.add(refusal.group());
        }
        return found;
    }

    /** The refusals of each call, in the order in which the document's promise of it names them. */
    private static void refusals(String page) throws IOException {
        String document = Files.readString(Path.of("../shared/DOC.md"));
        Matcher row = ROW.matcher(page);
        while (row.find()) {
            Matcher promise = Pattern.compile("## Promise \\d+: " + row.group(1) + "\n(.*?)\n## ", Pattern.DOTALL)
                .matcher(document);
            Check.holds("the document has a promise of " + row.group(1), promise.find());
            Check.holds("refusals of " + row.group(1) + ": " + row.group(4),
                refusalsIn(row.group(4)).equals(refusalsIn(promise.group(1))));
        }
    }

    private static void tests(String page) throws IOException {
        try (Stream<Path> files = Files.list(Path.of("src/test/java"))) {
            for (Path file : files.collect(Collectors.toList())) {
                String name = file.getFileName().toString();
                if (name.endsWith("Test.java")) {
                    Check.holds("README.md names " + name, page.contains("| `src/test/java/" + name + "` |"));
                }
            }
        }
    }
}
