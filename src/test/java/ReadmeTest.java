import java.io.IOException;
import java.lang.reflect.Method;
import java.lang.reflect.Modifier;
import java.nio.charset.StandardCharsets;
import java.nio.file.Files;
import java.nio.file.Path;
import java.util.regex.Matcher;
import java.util.regex.Pattern;

/** README.md tells the truth: its example answers what stands beside it, and it names every call. */
public final class ReadmeTest extends Talk {
    private static final Pattern EXAMPLE = Pattern.compile("(?m)^church\\.(\\w+)\\(([^)]*)\\); +// (-?\\d+|true|false)\\b");
    private static final Pattern LINE = Pattern.compile("(?m)^church\\.");

    public static void main(String[] args) throws IOException, ReflectiveOperationException {
        String readme = Files.readString(Path.of("README.md"), StandardCharsets.UTF_8);
        example(readme);
        lawsAndLists(readme);
        namesEveryCall(readme);
        namesEveryTest(readme);
        end("readme");
    }

    private static void example(String readme) throws ReflectiveOperationException {
        WeddingPews church = new WeddingPews();
        Matcher lines = EXAMPLE.matcher(readme);
        int read = 0;
        while (lines.find()) {
            read++;
            Object got = call(church, lines.group(1), lines.group(2));
            due(lines.group(), String.valueOf(got), lines.group(3));
        }
        due("every line of the example tells its answer", read, LINE.matcher(readme).results().count());
        due("there is an example", read > 10, true);
    }

    private static Object call(WeddingPews church, String name, String told) throws ReflectiveOperationException {
        String[] words = told.isEmpty() ? new String[0] : told.split(", ");
        Object[] numbers = new Object[words.length];
        for (int i = 0; i < words.length; i++) {
            numbers[i] = Long.decode(words[i]).intValue();
        }
        for (Method method : WeddingPews.class.getMethods()) {
            if (method.getName().equals(name) && method.getParameterCount() == words.length) {
                return method.invoke(church, numbers);
            }
        }
        return "no such call";
    }

    /** The texts that it shows have no fault. */
    private static void lawsAndLists(String readme) {
        WeddingPews church = new WeddingPews();
        due("the law", law(church, shown(readme, "law(n)")), 4);
        due("the list", list(church, shown(readme, "list(n)")), 5);
        WeddingPews full = churchWithLeft();
        moves(full, "12!");
        due("the moves", moves(full, shown(readme, "moves(n)")), 3);
    }

    private static String shown(String readme, String call) {
        Matcher row = Pattern.compile("(?m)^\\| `" + Pattern.quote(call) + "` \\|.*such as `(.*)` \\|$").matcher(readme);
        return row.find() ? row.group(1) : "";
    }

    private static void namesEveryCall(String readme) {
        for (Method method : WeddingPews.class.getDeclaredMethods()) {
            if (Modifier.isPublic(method.getModifiers())) {
                Matcher named = Pattern.compile("`" + method.getName() + "\\(([^)`]*)\\)`").matcher(readme);
                due("it names " + method.getName(), named.find(), true);
            }
        }
    }

    private static void namesEveryTest(String readme) throws IOException {
        try (var files = Files.list(Path.of("src/test/java"))) {
            files.map(file -> file.getFileName().toString().replace(".java", ""))
                    .forEach(name -> due("it names " + name, readme.contains("`" + name + "`"), true));
        }
    }
}
