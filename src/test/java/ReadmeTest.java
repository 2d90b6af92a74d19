import java.io.IOException;
import java.lang.reflect.Method;
import java.lang.reflect.Modifier;
import java.nio.file.Files;
import java.nio.file.Path;
import java.util.ArrayList;
import java.util.Arrays;
import java.util.List;
import java.util.Set;
import java.util.TreeSet;
import java.util.regex.Matcher;
import java.util.regex.Pattern;
import java.util.stream.Stream;

/** The example of README.md answers as it says there, and the page names every call and every test. */
public final class ReadmeTest {
    private static final Check CHECK = new Check();
    private static final Pattern TYPED =
            Pattern.compile("for \\(char c : \"([^\"]*)\"\\.toCharArray\\(\\)\\) x\\.type\\(([01]), c\\);");
    private static final Pattern CALL = Pattern.compile("x\\.(\\w+)\\(([-\\d, ]*)\\); +// (-?\\d+)(?:: .*)?");

    public static void main(String[] args) throws IOException, ReflectiveOperationException {
        String page = Files.readString(Path.of("README.md"));
        example(page);
        everyTest(page);
        CHECK.end();
    }

    private static void example(String page) throws ReflectiveOperationException {
        Matcher block = Pattern.compile("(?s)```java\n(.*?)```").matcher(page);
        CHECK.same("there is an example", block.find(), true);
        List<String> lines = block.group(1).lines().toList();
        CHECK.same("its first line", lines.get(0), "ChairSmells x = new ChairSmells();");
        ChairSmells x = new ChairSmells();
        Set<String> called = new TreeSet<>();
        for (String line : lines.subList(1, lines.size())) {
            Matcher typed = TYPED.matcher(line);
            Matcher call = CALL.matcher(line);
            if (typed.matches()) {
                Check.text(x, Integer.parseInt(typed.group(2)), typed.group(1));
            } else if (call.matches()) {
                called.add(call.group(1));
                CHECK.due(line, answer(x, call.group(1), call.group(2)), Long.parseLong(call.group(3)));
            } else {
                CHECK.same("a line of the example", line, "a call and what it answers");
            }
        }
        everyCall(page, called);
    }

    private static long answer(ChairSmells x, String name, String numbers) throws ReflectiveOperationException {
        List<Object> arguments = new ArrayList<>();
        for (String number : numbers.isEmpty() ? new String[0] : numbers.split(", ")) {
            arguments.add(Integer.valueOf(number));
        }
        Class<?>[] types = new Class<?>[arguments.size()];
        Arrays.fill(types, int.class);
        return ((Number) ChairSmells.class.getMethod(name, types).invoke(x, arguments.toArray())).longValue();
    }

    private static void everyCall(String page, Set<String> called) {
        for (Method method : ChairSmells.class.getDeclaredMethods()) {
            if (Modifier.isPublic(method.getModifiers())) {
                String name = method.getName();
                CHECK.same("the page tells of " + name, page.contains("`" + name + "("), true);
                CHECK.same("the example calls " + name, called.contains(name), true);
            }
        }
    }

    private static void everyTest(String page) throws IOException {
        try (Stream<Path> files = Files.list(Path.of("src/test/java"))) {
            for (Path file : files.toList()) {
                String name = file.getFileName().toString().replace(".java", "");
                boolean told = !name.endsWith("Test") || page.contains("\n| " + name + " |");
                CHECK.same("the page tells of " + name, told, true);
            }
        }
        CHECK.same("the page says how to run the tests", page.contains("`bash .ci/run`"), true);
    }
}
