import java.io.IOException;
import java.lang.reflect.Method;
import java.lang.reflect.Modifier;
import java.nio.file.DirectoryStream;
import java.nio.file.Files;
import java.nio.file.Path;
import java.util.HashMap;
import java.util.Map;
import java.util.regex.Matcher;
import java.util.regex.Pattern;

/** README.md tells the truth: its example answers what it says, and every call and test is named in it. */
public final class ReadmeTest {
    private static final Check CHECK = new Check();
    private static final String FIRST_LINE = "IdeaWorks works = new IdeaWorks();";
    /** A call of the example, the name that is given to its answer if any, and the answer that it tells. */
    private static final Pattern LINE = Pattern.compile("(?:int (\\w+) = )?works\\.(\\w+)\\(([^)]*)\\);\\s*// (-?\\d+)\\b.*");
    /** A row of the table of calls: the call, its arguments, and by what it is refused. */
    private static final Pattern ROW = Pattern.compile("\\| `(\\w+)\\(([^)]*)\\)` \\| .* \\| ([^|]+) \\|");

    private final IdeaWorks works = new IdeaWorks();
    private final Map<String, Object> told = new HashMap<>();

    public static void main(String[] args) throws IOException, ReflectiveOperationException {
        String readme = Files.readString(Path.of("README.md"));
        new ReadmeTest().exampleIsTrue(readme);
        callsAreNamed(readme);
        testsAreNamed(readme);
        CHECK.end("ReadmeTest");
    }

    private static void holds(String what, boolean so) {
        CHECK.due(what, so ? 1 : 0, 1);
    }

    private void exampleIsTrue(String readme) throws ReflectiveOperationException {
        int from = readme.indexOf("```java\n") + 8;
        String[] lines = readme.substring(from, readme.indexOf("```", from)).split("\n");
        CHECK.sentence("README, the example");
        holds(FIRST_LINE, lines[0].equals(FIRST_LINE));
        for (int at = 1; at < lines.length; at++) {
            Matcher line = LINE.matcher(lines[at]);
            holds("a call with its answer: " + lines[at], line.matches());
            if (line.matches()) {
                int got = ask(line.group(2), line.group(3));
                CHECK.due(lines[at], got, Integer.parseInt(line.group(4)));
                if (line.group(1) != null) {
                    told.put(line.group(1), got);
                }
            }
        }
    }

    private int ask(String name, String arguments) throws ReflectiveOperationException {
        Object[] values = Pattern.compile(", ").splitAsStream(arguments).map(this::value).toArray();
        return (int) method(name).invoke(works, values);
    }

    private Object value(String text) {
        if (text.equals("true") || text.equals("false")) {
            return Boolean.valueOf(text);
        }
        if (text.startsWith("0b")) {
            return Integer.parseInt(text.substring(2), 2);
        }
        return told.containsKey(text) ? told.get(text) : (Object) Integer.valueOf(text);
    }

    private static Method method(String name) {
        for (Method m : IdeaWorks.class.getDeclaredMethods()) {
            if (m.getName().equals(name) && Modifier.isPublic(m.getModifiers())) {
                return m;
            }
        }
        throw new IllegalStateException("no such call: " + name);
    }

    private static void callsAreNamed(String readme) {
        CHECK.sentence("README, the table of calls");
        Map<String, Integer> rows = new HashMap<>();
        for (String line : readme.split("\n")) {
            Matcher row = ROW.matcher(line);
            if (row.matches()) {
                rows.put(row.group(1), row.group(2).split(", ").length);
                holds("refusals of " + row.group(1), row.group(3).matches("never|-\\d(, -\\d)*"));
            }
        }
        int calls = 0;
        for (Method m : IdeaWorks.class.getDeclaredMethods()) {
            if (Modifier.isPublic(m.getModifiers())) {
                calls++;
                CHECK.due("arguments of " + m.getName(), rows.getOrDefault(m.getName(), -1), m.getParameterCount());
            }
        }
        CHECK.due("calls", rows.size(), calls);
    }

    private static void testsAreNamed(String readme) throws IOException {
        CHECK.sentence("README, the tests");
        try (DirectoryStream<Path> files = Files.newDirectoryStream(Path.of("src/test/java"), "*Test.java")) {
            for (Path file : files) {
                String name = file.getFileName().toString().replace(".java", "");
                holds(name + " is named", readme.contains("`" + name + "`"));
            }
        }
    }
}
