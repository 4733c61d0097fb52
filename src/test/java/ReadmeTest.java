import java.io.IOException;
import java.nio.file.Files;
import java.nio.file.Path;
import java.util.List;
import java.util.Set;
import java.util.TreeSet;
import java.util.regex.Matcher;
import java.util.regex.Pattern;
import java.util.stream.Stream;

/** What README.md shows as a call's answer is what the class answers; each call and each test stands there. */
public final class ReadmeTest {
    private static final Pattern BLOCK = Pattern.compile("(?s)```java\n(.*?)```");
    private static final Pattern MAKE = Pattern.compile("RiverDays x = new RiverDays\\(\\);");
    private static final Pattern SIGNS = Pattern.compile("String signs = \"([^\"]*)\";");
    private static final Pattern TEXT = Pattern.compile("x\\.text\\(0, signs\\.length\\(\\)\\);\\s+// (\\d+)\\b.*");
    private static final List<String> LOOP = List.of("for (int i = 0; i < signs.length(); i++) {",
        "    x.put(0, i, signs.charAt(i));", "}");
    private static final Pattern CALL = Pattern.compile("x\\.((\\w+)\\([-0-9, ]*\\));\\s+// (-?\\d+)(:.*)?");
    private static final int CALLS_LIMIT = 512;

    private final Set<String> shown = new TreeSet<>(Set.of("text"));
    private RiverDays x = null;
    private String signs = "";
    private int made = 0;

    public static void main(String[] args) throws IOException {
        String readme = Files.readString(Path.of("README.md"));
        new ReadmeTest().example(readme);
        tests(readme);
        Check.end("ReadmeTest");
    }

    private void example(String readme) {
        Matcher block = BLOCK.matcher(readme);
        while (block.find()) {
            block.group(1).lines().forEach(this::follow);
        }
        Check.isTrue("README.md shows " + shown, shown.equals(Twins.names()));
        Check.isTrue("README.md's run is no longer than an object lasts", made <= CALLS_LIMIT);
    }

    /** A line that is none of these would show what nobody looks at. */
    private void follow(String line) {
        Matcher m;
        if (MAKE.matcher(line).matches()) {
            x = new RiverDays();
        } else if ((m = SIGNS.matcher(line)).matches()) {
            signs = m.group(1);
        } else if ((m = TEXT.matcher(line)).matches()) {
            made++;
            Check.due(line, x.text(0, signs.length()), Long.parseLong(m.group(1)));
        } else if (LOOP.contains(line)) {
            putAll(line);
        } else if ((m = CALL.matcher(line)).matches()) {
            made++;
            shown.add(m.group(2));
            Check.due(line, Call.on(x, m.group(1)), Long.parseLong(m.group(3)));
        } else {
            Check.isTrue("README.md: " + line, false);
        }
    }

    private void putAll(String line) {
        if (!line.equals("}")) {
            return;
        }
        for (int i = 0; i < signs.length(); i++) {
            made++;
            x.put(0, i, signs.charAt(i));
        }
    }

    private static void tests(String readme) throws IOException {
        Check.isTrue("README.md says how the tests are run", readme.contains("\n    .ci/run\n"));
        Set<String> there = new TreeSet<>();
        try (Stream<Path> files = Files.list(Path.of("src/test/java"))) {
            files.map(f -> f.getFileName().toString()).filter(f -> f.endsWith("Test.java"))
                .forEach(f -> there.add(f.substring(0, f.length() - ".java".length())));
        }
        Set<String> named = new TreeSet<>();
        Matcher m = Pattern.compile("\\b\\w+Test\\b").matcher(readme);
        while (m.find()) {
            named.add(m.group());
        }
        Check.isTrue("README.md names " + named + ", there are " + there, named.equals(there));
    }
}
