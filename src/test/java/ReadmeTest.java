import java.io.IOException;
import java.lang.reflect.Method;
import java.nio.file.Files;
import java.nio.file.Path;
import java.util.ArrayList;
import java.util.List;
import java.util.regex.Matcher;
import java.util.regex.Pattern;
import java.util.stream.Stream;

/** What README.md says of the class: its example, its calls with what they throw, and the tests. */
final class ReadmeTest {
    private static final Pattern EXAMPLE = Pattern.compile("miner\\.(\\w+)\\(([-0-9, ]*)\\); +// ([-0-9a-z]+): .+");
    private static final Pattern EXCEPTION = Pattern.compile("`(\\w+Exception)`");

    private ReadmeTest() {
    }

    public static void main(String[] args) throws Exception {
        List<String> lines = Files.readAllLines(Path.of("README.md"));
        checkExample(lines.subList(lines.indexOf("```java") + 1, lines.lastIndexOf("```")));
        for (Method method : publicMethods()) {
            checkRow(lines, method);
        }
        checkTests(lines);
        Check.finish("ReadmeTest");
    }

    private static List<Method> publicMethods() {
        List<Method> methods = new ArrayList<>();
        for (Method method : ProcessMiner.class.getMethods()) {
            if (method.getDeclaringClass() == ProcessMiner.class) {
                methods.add(method);
            }
        }
        return methods;
    }

    private static void checkExample(List<String> example) throws Exception {
        Check.due("first line", example.get(0), "ProcessMiner miner = new ProcessMiner();");
        ProcessMiner miner = new ProcessMiner();
        for (String line : example.subList(1, example.size())) {
            Matcher parts = EXAMPLE.matcher(line);
            if (parts.matches()) {
                Check.due(line, String.valueOf(call(miner, parts.group(1), parts.group(2))), parts.group(3));
            } else {
                Check.due("a line that is no call", line, "");
            }
        }
    }

    private static Object call(ProcessMiner miner, String name, String values) throws Exception {
        Object[] numbers = values.isEmpty() ? new Object[0]
                : Stream.of(values.split(", *")).map(Integer::valueOf).toArray();
        for (Method method : publicMethods()) {
            if (method.getName().equals(name)) {
                return method.invoke(miner, numbers);
            }
        }
        return "no such method";
    }

    // The row of a call has as many parameters as the method, and its exceptions in their order.
    private static void checkRow(List<String> lines, Method method) {
        List<String> rows = new ArrayList<>(lines);
        rows.removeIf(line -> !line.startsWith("| `" + method.getName() + "("));
        Check.due("rows of " + method.getName(), rows.size(), 1);
        for (String row : rows) {
            String parameters = row.substring(row.indexOf('(') + 1, row.indexOf(')'));
            Check.due("parameters of " + method.getName(),
                    parameters.isEmpty() ? 0 : parameters.split(",").length, method.getParameterCount());
            List<String> told = new ArrayList<>();
            EXCEPTION.matcher(row).results().forEach(found -> told.add(found.group(1)));
            List<String> declared = new ArrayList<>();
            for (Class<?> type : method.getExceptionTypes()) {
                declared.add(type.getSimpleName());
            }
            Check.due("exceptions of " + method.getName(), told, declared);
        }
    }

    private static void checkTests(List<String> lines) throws IOException {
        List<String> told = new ArrayList<>();
        for (String line : lines) {
            if (line.matches("\\| `\\w+Test` \\|.*")) {
                told.add(line.substring(line.indexOf('`') + 1, line.lastIndexOf("Test`") + 4));
            }
        }
        List<String> found = new ArrayList<>();
        try (Stream<Path> files = Files.list(Path.of("src/test/java"))) {
            files.map(file -> file.getFileName().toString()).filter(name -> name.endsWith("Test.java"))
                    .forEach(name -> found.add(name.replace(".java", "")));
        }
        told.sort(null);
        found.sort(null);
        Check.due("the tests", told, found);
    }
}
