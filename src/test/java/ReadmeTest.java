import java.io.IOException;
import java.lang.reflect.Field;
import java.lang.reflect.Method;
import java.lang.reflect.Modifier;
import java.nio.file.Files;
import java.nio.file.Path;
import java.util.List;
import java.util.Set;
import java.util.TreeSet;
import java.util.regex.Matcher;
import java.util.regex.Pattern;
import java.util.stream.Collectors;

/** README.md: its example does what it says, and it names all that there is and nothing that there is not. */
public final class ReadmeTest {
    private static final Checks CHECKS = new Checks();
    private static final Path TESTS = Path.of("src/test/java");

    public static void main(String[] args) throws IOException {
        String readme = Files.readString(Path.of("README.md"));
        example();
        exampleIsTheOneOfTheReadme(readme);
        calls(readme);
        constants(readme);
        tests(readme);
        CHECKS.end();
    }

    private static void example() {
        // The example begins here.
        CutDetectMember c = new CutDetectMember(5, 2, 2, 1); // members 0..4, 2 rings, H = 2, L = 1
        c.crash(4);
        c.observe(c.observer(0, 4, 0), 4);                   // the observers of 4 broadcast their alerts
        c.observe(c.observer(0, 4, 1), 4);
        for (int turn = 0; turn < 10; turn++) {              // alerts, then the votes that they bring
            for (int slot = 0; slot < CutDetectMember.SLOTS; slot++) {
                for (int p = 0; p < 16; p++) {
                    c.deliver(slot, p);                      // false where p has nothing to receive
                }
            }
        }
        // c.configOf(0) is 1, c.membersOf(0) is 15 (processes 0..3), c.lastCut(0) is 16 (process 4)
        // The example ends here.
        for (int p = 0; p < 4; p++) {
            CHECKS.installed("the example", c, p, 1, 15, 16);
        }
    }

    private static void exampleIsTheOneOfTheReadme(String readme) throws IOException {
        String source = Files.readString(TESTS.resolve("ReadmeTest.java"));
        List<String> here = between(source, "// The example begins here.\n", "// The example ends here.\n");
        List<String> there = between(readme, "```java\n", "```\n");
        CHECKS.due("the example of README.md is the one of ReadmeTest", there.equals(here), true);
    }

    private static List<String> between(String text, String begin, String end) {
        int from = text.indexOf(begin) + begin.length();
        return text.substring(from, text.indexOf(end, from)).strip().lines().map(String::strip).toList();
    }

    /** Each row of a table that begins with a call is about a method of the class, and there is one for each. */
    private static void calls(String readme) {
        Set<String> told = found(readme, "(?m)^\\| `(\\w+\\([\\w, ]*\\))`");
        Set<String> names = told.stream().map(call -> call.replaceAll("\\(.*", "")).collect(Collectors.toSet());
        for (Method method : CutDetectMember.class.getDeclaredMethods()) {
            if (Modifier.isPublic(method.getModifiers())) {
                CHECKS.due("README.md has a row for " + method, names.remove(method.getName()), true);
            }
        }
        CHECKS.due("rows for nothing: " + names, names.size(), 0);
    }

    /** The kinds of messages are left to the document. */
    private static void constants(String readme) {
        Set<String> told = found(readme, "`((?:F|ST|P)_\\w+)`");
        for (Field field : CutDetectMember.class.getDeclaredFields()) {
            if (field.getName().matches("(F|ST|P)_\\w+")) {
                CHECKS.due("README.md names " + field, told.remove(field.getName()), true);
            }
        }
        CHECKS.due("names of nothing: " + told, told.size(), 0);
    }

    private static void tests(String readme) throws IOException {
        Set<String> told = found(readme, "\\b([A-Z]\\w*Test)\\b");
        try (var files = Files.list(TESTS)) {
            Set<String> names = files.map(file -> file.getFileName().toString().replace(".java", ""))
                    .filter(name -> name.endsWith("Test")).collect(Collectors.toCollection(TreeSet::new));
            CHECKS.due("tests " + names + ", told are " + told, told.equals(names), true);
        }
    }

    private static Set<String> found(String text, String pattern) {
        Matcher next = Pattern.compile(pattern).matcher(text);
        return next.results().map(match -> match.group(1)).collect(Collectors.toCollection(TreeSet::new));
    }
}
