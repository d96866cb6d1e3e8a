import java.lang.reflect.Method;
import java.lang.reflect.Modifier;
import java.nio.file.Files;
import java.nio.file.Path;
import java.util.List;
import java.util.Map;
import java.util.TreeMap;
import java.util.regex.Matcher;
import java.util.regex.Pattern;
import java.util.stream.Stream;

/** README.md is gone through line by line: what its examples say that a call answers must be so. */
public final class ReadmeTest {
    private static final Map<String, Integer> WORDS = Map.of("BAD", -1, "NO", -2, "FULL", -3, "NONE", -4);
    private static final Pattern TEXT = Pattern.compile("for \\(char letter : \"(.*)\"\\.toCharArray\\(\\)\\) \\{");
    private static final Pattern ANSWER =
        Pattern.compile("bureau\\.(\\w+)\\(([-0-9, ]*)\\); +// (-?\\d+|BAD|NO|FULL|NONE)\\b.*");
    private static final List<String> OTHER_LINES =
        List.of("CoincidenceBureau bureau = new CoincidenceBureau();", "bureau.write(letter);", "}");
    private static final Map<String, Method> METHODS = new TreeMap<>();
    private static final Checks checks = new Checks();

    public static void main(String[] args) throws Exception {
        for (Method m : CoincidenceBureau.class.getDeclaredMethods()) {
            if (Modifier.isPublic(m.getModifiers())) {
                METHODS.put(m.getName(), m);
            }
        }
        String page = Files.readString(Path.of("README.md"));
        examples(page);
        for (String name : METHODS.keySet()) {
            checks.holds("README.md shows " + name, page.contains("bureau." + name + "("));
        }
        for (Map.Entry<String, Integer> word : WORDS.entrySet()) {
            checks.holds(word.getKey(), page.contains("`" + word.getKey() + "` (" + word.getValue() + ")"));
        }
        tests(page);
        checks.end("ReadmeTest");
    }

    private static void examples(String page) throws Exception {
        CoincidenceBureau bureau = new CoincidenceBureau();
        boolean inside = false;
        for (String raw : page.split("\n")) {
            String line = raw.trim();
            if (line.startsWith("```")) {
                inside = line.equals("```java");
            } else if (inside) {
                example(bureau, line);
            }
        }
    }

    private static void example(CoincidenceBureau bureau, String line) throws Exception {
        Matcher text = TEXT.matcher(line);
        Matcher answer = ANSWER.matcher(line);
        if (text.matches()) {
            for (char letter : text.group(1).toCharArray()) {
                bureau.write(letter);
            }
        } else if (answer.matches()) {
            int want = WORDS.containsKey(answer.group(3)) ? WORDS.get(answer.group(3)) : Integer.parseInt(answer.group(3));
            Object[] numbers = Stream.of(answer.group(2).split(",")).map(String::trim).filter(n -> !n.isEmpty())
                .map(Integer::valueOf).toArray();
            checks.due("README.md: " + line, (int) METHODS.get(answer.group(1)).invoke(bureau, numbers), want);
        } else {
            checks.holds("README.md: a line that can be tested: " + line, OTHER_LINES.contains(line));
        }
    }

    private static void tests(String page) throws Exception {
        try (Stream<Path> files = Files.list(Path.of("src/test/java"))) {
            for (Path file : files.sorted().toList()) {
                String name = file.getFileName().toString().replace(".java", "");
                checks.holds("README.md tells of " + name, !name.endsWith("Test") || page.contains("`" + name + "`"));
            }
        }
    }
}
