import java.io.IOException;
import java.lang.reflect.Method;
import java.lang.reflect.Modifier;
import java.nio.file.Files;
import java.nio.file.Path;
import java.util.ArrayList;
import java.util.List;
import java.util.Set;
import java.util.TreeSet;
import java.util.regex.Matcher;
import java.util.regex.Pattern;
import java.util.stream.Stream;

/** README.md tells what is so: its example, its table of calls, its table of tests. Run from the project's folder. */
public final class ReadmeTest {
    private static final Pattern TEXT = Pattern.compile("\"([^\"]*)\"\\.toCharArray");
    private static final Pattern CALL = Pattern.compile(
            "house\\.(\\w+)\\(([-\\d, ]*)\\);\\s+// (-?\\d+)\\b(?: ([A-Z]{2,}))?.*");
    private static final Pattern ROW = Pattern.compile("(?m)^\\| `(\\w+)\\(([\\w, ]*)\\)` \\| (\\d+) \\|");
    private static final Check check = new Check();

    public static void main(String[] args) throws Exception {
        String readme = Files.readString(Path.of("README.md"));
        example(readme);
        calls(readme);
        tests(readme);
        check.end();
    }

    private static void example(String readme) throws ReflectiveOperationException {
        int start = readme.indexOf("```java\n");
        int end = readme.indexOf("```", start + 3);
        check.isTrue("there is an example", start >= 0 && end > start);
        AdmiralGuinea house = new AdmiralGuinea();
        int answers = 0;
        for (String line : readme.substring(start, end).split("\n")) {
            Matcher text = TEXT.matcher(line);
            if (text.find()) Scene.say(house, text.group(1));
            if (!line.startsWith("house.")) continue;
            Matcher call = CALL.matcher(line);
            check.isTrue("can be read: " + line, call.matches());
            check.due(line, answerOf(house, call.group(1), call.group(2)), Long.parseLong(call.group(3)));
            if (call.group(4) != null) named(line, call.group(4), Long.parseLong(call.group(3)));
            answers++;
        }
        check.isTrue("the example has answers", answers > 20);
    }

    /** The name behind an answer is that number's; of LOST, what is left is a refusal. */
    private static void named(String line, String name, long answer) throws ReflectiveOperationException {
        long value = ((Number) AdmiralGuinea.class.getField(name).get(null)).longValue();
        boolean lost = name.equals("LOST") && answer - value < 0 && answer - value >= AdmiralGuinea.NONE;
        check.isTrue(name + " in " + line, answer == value || lost);
    }

    private static long answerOf(AdmiralGuinea house, String name, String numbers) throws ReflectiveOperationException {
        String[] parts = numbers.isEmpty() ? new String[0] : numbers.split(", ");
        Class<?>[] types = new Class<?>[parts.length];
        Object[] values = new Object[parts.length];
        for (int i = 0; i < parts.length; i++) {
            types[i] = int.class;
            values[i] = Integer.parseInt(parts[i]);
        }
        return ((Number) AdmiralGuinea.class.getMethod(name, types).invoke(house, values)).longValue();
    }

    /** Each call of the face has a row, with as many arguments, and the promises come one after another. */
    private static void calls(String readme) {
        Set<String> face = new TreeSet<>();
        for (Method m : AdmiralGuinea.class.getDeclaredMethods()) {
            if (Modifier.isPublic(m.getModifiers())) face.add(m.getName() + " " + m.getParameterCount());
        }
        Set<String> rows = new TreeSet<>();
        Matcher row = ROW.matcher(readme);
        for (int promise = 2; row.find(); promise++) {
            check.due("promise of " + row.group(1), Integer.parseInt(row.group(3)), promise);
            rows.add(row.group(1) + " " + (row.group(2).isEmpty() ? 0 : row.group(2).split(", ").length));
        }
        check.isTrue("rows of calls " + rows, rows.equals(face));
    }

    private static void tests(String readme) throws IOException {
        List<String> files = new ArrayList<>();
        try (Stream<Path> all = Files.list(Path.of("src/test/java"))) {
            all.map(file -> file.getFileName().toString()).filter(name -> name.endsWith("Test.java"))
                    .forEach(name -> files.add(name.substring(0, name.length() - 5)));
        }
        for (String file : files) check.isTrue(file + " has a row", readme.contains("\n| " + file + " |"));
        Matcher row = Pattern.compile("(?m)^\\| (\\w+Test) \\|").matcher(readme);
        while (row.find()) check.isTrue(row.group(1) + " is there", files.contains(row.group(1)));
    }
}
