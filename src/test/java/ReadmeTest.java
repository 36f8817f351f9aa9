import java.io.IOException;
import java.lang.reflect.Method;
import java.lang.reflect.Modifier;
import java.nio.file.Files;
import java.nio.file.Path;
import java.util.List;
import java.util.regex.Matcher;
import java.util.regex.Pattern;

/** Each call that README.md shows answers what stands behind it; every call of the face and every test is named there. */
public final class ReadmeTest extends Edge {
    private static final Pattern NEW = Pattern.compile("CircleTints x = new CircleTints\\(\\);");
    private static final Pattern FEED = Pattern.compile("for \\(char c : \"(.*)\"\\.toCharArray\\(\\)\\) x\\.feed\\(c, 1\\);");
    private static final Pattern CALL = Pattern.compile("x\\.(\\w+)\\((.*)\\); +// (-?\\d+)\\b.*");

    public static void main(String[] args) throws Exception {
        List<String> page = Files.readAllLines(Path.of("README.md"));
        runExamples(page);
        String text = String.join("\n", page);
        for (Method m : CircleTints.class.getDeclaredMethods()) {
            if (Modifier.isPublic(m.getModifiers()) && !text.contains("`" + m.getName() + "`")) fault("README.md does not name " + m.getName());
        }
        for (String test : tests()) if (!text.contains("`" + test + "`")) fault("README.md does not name " + test);
        end();
    }

    private static void runExamples(List<String> page) throws Exception {
        CircleTints x = null;
        boolean inside = false;
        int calls = 0;
        for (String row : page) {
            if (row.startsWith("```")) {
                inside = row.equals("```java");
                continue;
            }
            if (!inside) continue;
            Matcher call = CALL.matcher(row);
            Matcher feed = FEED.matcher(row);
            if (NEW.matcher(row).matches()) {
                x = new CircleTints();
            } else if (feed.matches()) {
                feedAll(x, feed.group(1));
            } else if (call.matches()) {
                due(row, answer(x, call.group(1), call.group(2)), Long.parseLong(call.group(3)));
                calls++;
            } else {
                fault("not a call with its answer: " + row);
            }
        }
        if (calls < 20) fault("only " + calls + " calls were found");
    }

    private static long answer(CircleTints x, String name, String arguments) throws Exception {
        String[] told = arguments.isEmpty() ? new String[0] : arguments.split(", ");
        for (Method m : CircleTints.class.getDeclaredMethods()) {
            if (!m.getName().equals(name) || m.getParameterCount() != told.length) continue;
            Object[] values = new Object[told.length];
            for (int i = 0; i < told.length; i++) {
                long value = Long.parseLong(told[i].replace("L", ""));
                if (m.getParameterTypes()[i] == long.class) values[i] = value;
                else values[i] = Math.toIntExact(value);
            }
            return ((Number) m.invoke(x, values)).longValue();
        }
        throw new IllegalArgumentException("no such call: " + name);
    }

    private static List<String> tests() throws IOException {
        try (var files = Files.list(Path.of("src/test/java"))) {
            return files.map(f -> f.getFileName().toString()).filter(f -> f.endsWith("Test.java")).map(f -> f.replace(".java", "")).sorted().toList();
        }
    }
}
