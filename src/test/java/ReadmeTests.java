import java.io.IOException;
import java.lang.reflect.InvocationTargetException;
import java.lang.reflect.Method;
import java.lang.reflect.Modifier;
import java.nio.charset.StandardCharsets;
import java.nio.file.Files;
import java.nio.file.Path;
import java.util.HashMap;
import java.util.HashSet;
import java.util.List;
import java.util.Map;
import java.util.Set;
import java.util.regex.Matcher;
import java.util.regex.Pattern;
import java.util.stream.Collectors;
import java.util.stream.Stream;

/** Holds README.md to the class and to the tests that there are. */
public final class ReadmeTests {
    private static final Pattern CALL =
            Pattern.compile("(?:int (\\w+) = )?x\\.(\\w+)\\(([^)]*)\\); +// answers (-?\\w+)(?:: .*)?");
    private static final int LEAST_CALLS = 20;

    private static int wrong = 0;

    private ReadmeTests() { }

    public static void main(String[] args) throws IOException, ReflectiveOperationException {
        String page = Files.readString(Path.of("README.md"), StandardCharsets.UTF_8);
        exampleAnswersWhatItSays(page);
        eachCallIsNamed(page);
        eachTestIsNamed(page);
        scriptIsNamed(page);
        System.out.println(wrong == 0 ? "README.md holds" : "README.md does not hold: " + wrong);
        if (wrong != 0) {
            System.exit(1);
        }
    }

    private static void must(boolean holds, String what) {
        if (!holds) {
            wrong++;
            System.out.println("not so: " + what);
        }
    }

    private static void exampleAnswersWhatItSays(String page) throws ReflectiveOperationException {
        Matcher example = Pattern.compile("(?s)```java\n(.*?)```").matcher(page);
        must(example.find(), "there is an example");
        PackWright x = new PackWright();
        Map<String, Integer> variables = new HashMap<>();
        int calls = 0;
        for (String line : example.group(1).split("\n")) {
            Matcher call = CALL.matcher(line);
            if (call.matches()) {
                calls++;
                Object got = answer(x, call.group(2), call.group(3), variables);
                must(got.toString().equals(call.group(4)), line + " (it answers " + got + ")");
                if (call.group(1) != null && got instanceof Integer number) {
                    variables.put(call.group(1), number);
                }
            } else {
                must(line.isEmpty() || line.startsWith("// ") || line.equals("PackWright x = new PackWright();"),
                        "this line can be looked at: " + line);
            }
        }
        must(calls >= LEAST_CALLS, "the example has calls with their answers: " + calls);
    }

    private static Object answer(PackWright x, String name, String told, Map<String, Integer> variables)
            throws ReflectiveOperationException {
        String[] words = told.isEmpty() ? new String[0] : told.split(", ");
        Object[] arguments = new Object[words.length];
        for (int i = 0; i < words.length; i++) {
            Integer variable = variables.get(words[i]);
            arguments[i] = variable != null ? variable : Integer.valueOf(words[i]);
        }
        for (Method method : PackWright.class.getMethods()) {
            if (method.getName().equals(name) && method.getParameterCount() == words.length) {
                try {
                    return method.invoke(x, arguments);
                } catch (InvocationTargetException e) {
                    return "throws." + e.getCause().getClass().getSimpleName();
                }
            }
        }
        return "nothing: there is no such call";
    }

    /** Each call stands just once in the table of calls, and nothing else does. */
    private static void eachCallIsNamed(String page) {
        Set<String> due = new HashSet<>();
        for (Method method : PackWright.class.getDeclaredMethods()) {
            if (Modifier.isPublic(method.getModifiers())) {
                due.add(method.getName());
            }
        }
        Set<String> named = new HashSet<>();
        for (String line : page.split("\n")) {
            Matcher name = Pattern.compile("`(\\w+)`").matcher(line);
            while (line.startsWith("| ") && name.find()) {
                must(named.add(name.group(1)), name.group(1) + " stands once in the table");
            }
        }
        must(named.equals(due), "the table has the calls of the class: " + named);
    }

    private static void eachTestIsNamed(String page) throws IOException {
        Set<String> due = new HashSet<>();
        try (Stream<Path> files = Files.list(Path.of("src/test/java"))) {
            for (Path file : files.collect(Collectors.toList())) {
                due.add(file.getFileName().toString().replace(".java", ""));
            }
        }
        for (String name : due) {
            must(page.contains("`" + name + "`"), name + " is named");
        }
        Matcher item = Pattern.compile("(?m)^- `(\\w+)`:").matcher(page);
        while (item.find()) {
            must(due.contains(item.group(1)), item.group(1) + " is a test");
        }
    }

    private static void scriptIsNamed(String page) {
        String tests = page.substring(Math.max(0, page.indexOf("## How to run its tests")));
        for (String words : List.of("    .ci/run\n", "`src/main/java/PackWright.java`", "`src/test/java`", "`../shared/tests`")) {
            must(tests.contains(words), words + " stands where the running of the tests is told");
        }
        must(Files.isExecutable(Path.of(".ci/run")), ".ci/run can be run");
    }
}
