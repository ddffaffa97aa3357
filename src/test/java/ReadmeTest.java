import java.lang.reflect.Method;
import java.nio.file.Files;
import java.nio.file.Path;
import java.util.HashMap;
import java.util.Map;
import java.util.regex.Matcher;
import java.util.regex.Pattern;

/** README.md tells the truth: its example answers what stands there, and its tables leave no call, finding or test out. */
public final class ReadmeTest {
    private static final Pattern LINE = Pattern.compile("(?:int (\\w+) = )?hall\\.(\\w+)\\(([^)]*)\\); +// (-?\\d+)(?:: .*)?");
    private static final int LEAST_LINES = 30;
    private static final Check check = new Check();

    public static void main(String[] args) throws Exception {
        String readme = Files.readString(Path.of("README.md"));
        theExample(readme);
        theTables(readme);
        check.end();
    }

    private static void theExample(String readme) {
        int from = readme.indexOf("```java\n") + 8;
        SpeakHall hall = new SpeakHall();
        Map<String, String> named = new HashMap<>();
        int lines = 0;
        for (String line : readme.substring(from, readme.indexOf("```", from)).split("\n")) {
            Matcher call = LINE.matcher(line);
            if (!call.matches()) {
                check.holds("a call with its answer: " + line, line.isBlank() || line.equals("SpeakHall hall = new SpeakHall();"));
                continue;
            }
            lines++;
            String with = call.group(3);
            for (Map.Entry<String, String> name : named.entrySet()) {
                with = with.replaceAll("\\b" + name.getKey() + "\\b", name.getValue());
            }
            check.due("README.md: " + line, Script.answer(hall, call.group(2) + "(" + with + ")"), Long.parseLong(call.group(4)));
            if (call.group(1) != null) {
                named.put(call.group(1), call.group(4));
            }
        }
        check.holds("lines of the example: " + lines, lines >= LEAST_LINES);
    }

    private static void theTables(String readme) throws Exception {
        for (Method call : RandomCalls.face()) {
            check.holds("README.md names " + call.getName(), readme.contains("`" + call.getName() + "`"));
        }
        for (int finding = Check.NEVER; finding <= Check.BEYOND; finding++) {
            check.holds("README.md names " + finding, readme.contains("\n| " + finding + " | " + Script.named(finding) + ": "));
        }
        try (var files = Files.list(Path.of("src/test/java"))) {
            for (Path file : files.toList()) {
                String name = file.getFileName().toString().replace(".java", "");
                check.holds("README.md tells of " + name, !name.endsWith("Test") || readme.contains("\n| " + name + " | "));
            }
        }
    }
}
