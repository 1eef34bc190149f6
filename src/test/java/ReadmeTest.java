import java.io.IOException;
import java.lang.reflect.Method;
import java.lang.reflect.Modifier;
import java.nio.file.Files;
import java.nio.file.Path;
import java.util.List;
import java.util.Set;
import java.util.TreeSet;
import java.util.regex.Matcher;
import java.util.regex.Pattern;
import java.util.stream.Collectors;
import java.util.stream.Stream;

/** What README.md tells: its example, its table of calls, and the tests and classes that it names. */
public final class ReadmeTest {
    private static final Path TESTS = Path.of("src/test/java");
    private static final Pattern CALL = Pattern.compile("workshop\\.(.*\\));\\s+// (throws \\w+|[^: ]+).*");

    public static void main(String[] args) throws IOException {
        String page = Files.readString(Path.of("README.md"));
        example(page);
        Script.same("the calls of the table", namesIn(rowsOf(page), "[a-z]\\w*"), face());
        testsAndClasses(page);
        Script.end("ReadmeTest");
    }

    private static void example(String page) {
        int begin = page.indexOf("```java\n") + "```java\n".length();
        StringBuilder calls = new StringBuilder();
        for (String line : page.substring(begin, page.indexOf("```", begin)).split("\n")) {
            Matcher call = CALL.matcher(line);
            if (call.matches()) {
                boolean isThrown = call.group(2).startsWith("throws ");
                calls.append(call.group(1)).append(isThrown ? " " : " = ").append(call.group(2)).append(';');
            } else {
                Script.same("a line of the example", line, "Springseat workshop = new Springseat();");
            }
        }
        Script.same("there are calls in the example", calls.length() > 0, true);
        Script.run("the example", calls.toString());
    }

    private static String rowsOf(String page) {
        return page.lines().filter(line -> line.startsWith("| ")).collect(Collectors.joining("\n"));
    }

    private static Set<String> namesIn(String text, String name) {
        Set<String> names = new TreeSet<>();
        Matcher told = Pattern.compile("`(" + name + ")`").matcher(text);
        while (told.find()) {
            Script.same(told.group(1) + " is told anew", names.add(told.group(1)), true);
        }
        return names;
    }

    private static Set<String> face() {
        Set<String> names = new TreeSet<>();
        for (Method method : Springseat.class.getDeclaredMethods()) {
            if (Modifier.isPublic(method.getModifiers())) {
                names.add(method.getName());
            }
        }
        return names;
    }

    private static void testsAndClasses(String page) throws IOException {
        int begin = page.indexOf("The tests of the project");
        Script.same("there is a list of tests", begin > 0, true);
        Script.same("the tests", namesIn(page.substring(Math.max(begin, 0)), "\\w+Test"), tests());
        List<Class<?>> inside = List.of(Springseat.class.getDeclaredClasses());
        for (Class<?> one : inside) {
            Script.same(one.getSimpleName() + " is told", page.contains("`" + one.getSimpleName() + "`"), true);
        }
    }

    private static Set<String> tests() throws IOException {
        try (Stream<Path> files = Files.list(TESTS)) {
            return files.map(file -> file.getFileName().toString()).filter(name -> name.endsWith("Test.java"))
                    .map(name -> name.substring(0, name.indexOf('.'))).collect(Collectors.toCollection(TreeSet::new));
        }
    }
}
