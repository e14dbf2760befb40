import java.net.URL;
import java.net.URLClassLoader;
import java.nio.file.Files;
import java.nio.file.Path;
import java.util.ArrayList;
import java.util.List;
import java.util.Map;
import java.util.Set;
import java.util.TreeMap;
import java.util.TreeSet;
import java.util.function.Supplier;
import java.util.regex.Matcher;
import java.util.regex.Pattern;
import javax.tools.ToolProvider;

/** The README's example answers what it says, and its table names each promise; run in the project's folder. */
public final class ReadmeTest {
    private static final Pattern EXAMPLE = Pattern.compile("```java\n(.*?)```", Pattern.DOTALL);
    private static final Pattern ANSWER = Pattern.compile("(?:int|long|boolean) (\\w+) = .*; +// (-?\\w+).*");
    private static final Pattern ROW = Pattern.compile("\\| [a-z ]+ \\| (.*) \\|");
    private static final Pattern GROUP = Pattern.compile("([^()]*)\\(([^()]*)\\)");
    private static final Pattern NAME = Pattern.compile("`(\\w+)`");
    private static final Pattern RANGE = Pattern.compile("(\\d+)(?: to (\\d+))?");
    private static final Pattern PROMISE = Pattern.compile("## Promise (\\d+): (\\w+)");

    private final Check check = new Check();

    public static void main(String[] args) throws Exception {
        ReadmeTest test = new ReadmeTest();
        String readme = Files.readString(Path.of("README.md"));
        test.example(readme);
        test.table(readme);
        test.check.finish();
    }

    private void example(String readme) throws Exception {
        Matcher example = EXAMPLE.matcher(readme);
        check.told("an example", "true", String.valueOf(example.find()));
        Map<String, String> due = new TreeMap<>();
        StringBuilder source = new StringBuilder("public final class Example implements java.util.function.Supplier<String> {\n"
                + "public String get() {\n").append(example.group(1)).append("return \"\"");
        for (String line : example.group(1).split("\n")) {
            Matcher answer = ANSWER.matcher(line);
            if (answer.matches()) {
                due.put(answer.group(1), answer.group(2));
                source.append(" + \"").append(answer.group(1)).append(" \" + ").append(answer.group(1)).append(" + \"\\n\"");
            }
        }
        check.told("answers of the example", "15", String.valueOf(due.size()));
        for (String line : answers(source.append(";\n}\n}\n").toString()).split("\n")) {
            String name = line.split(" ")[0];
            check.told("the example's " + name, String.valueOf(due.get(name)), line.split(" ")[1]);
        }
    }

    private static String answers(String source) throws Exception {
        Path folder = Files.createTempDirectory("readme");
        Path file = folder.resolve("Example.java");
        Files.writeString(file, source);
        String path = System.getProperty("java.class.path");
        int code = ToolProvider.getSystemJavaCompiler().run(null, null, null, "-cp", path, "-d", folder.toString(), file.toString());
        String got = "compiled false";
        if (code == 0) {
            try (URLClassLoader loader = new URLClassLoader(new URL[] {folder.toUri().toURL()})) {
                got = (String) ((Supplier<?>) loader.loadClass("Example").getDeclaredConstructor().newInstance()).get();
            }
            Files.delete(folder.resolve("Example.class"));
        }
        Files.delete(file);
        Files.delete(folder);
        return got;
    }

    private void table(String readme) throws Exception {
        Map<Integer, String> due = new TreeMap<>();
        for (String line : Files.readAllLines(Path.of("..", "shared", "DOC.md"))) {
            Matcher promise = PROMISE.matcher(line);
            if (promise.matches() && !promise.group(2).equals("A")) {
                due.put(Integer.parseInt(promise.group(1)), promise.group(2));
            }
        }
        check.told("promises of methods", "62", String.valueOf(due.size()));
        Set<Integer> told = new TreeSet<>();
        for (String line : readme.split("\n")) {
            Matcher row = ROW.matcher(line);
            Matcher group = GROUP.matcher(row.matches() ? row.group(1) : "");
            while (group.find()) {
                List<Integer> numbers = numbers(group.group(2));
                Set<String> wanted = new TreeSet<>();
                for (int number : numbers) {
                    wanted.add(due.getOrDefault(number, "none"));
                }
                check.told("the methods of promises " + numbers, wanted.toString(), names(group.group(1)).toString());
                told.addAll(numbers);
            }
        }
        check.told("promises in the table", due.keySet().toString(), told.toString());
    }

    private static Set<String> names(String text) {
        Set<String> names = new TreeSet<>();
        for (Matcher name = NAME.matcher(text); name.find();) {
            names.add(name.group(1));
        }
        return names;
    }

    private static List<Integer> numbers(String text) {
        List<Integer> numbers = new ArrayList<>();
        for (Matcher range = RANGE.matcher(text); range.find();) {
            int first = Integer.parseInt(range.group(1));
            int last = range.group(2) == null ? first : Integer.parseInt(range.group(2));
            for (int number = first; number <= last; number++) {
                numbers.add(number);
            }
        }
        return numbers;
    }
}
