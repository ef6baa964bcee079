import java.lang.reflect.Method;
import java.lang.reflect.Modifier;
import java.nio.charset.StandardCharsets;
import java.nio.file.Files;
import java.nio.file.Path;
import java.util.regex.Matcher;
import java.util.regex.Pattern;

/** That README.md says what is so: its example, its law, and that it names each call. */
public final class ReadmeTest {
    private static final Pattern STATEMENT = Pattern.compile("x\\.(\\w+)\\((.*?)\\); +// (true|false|-?\\d+): .*");

    private static Method methodOf(String name) {
        for (Method m : HalfAJoke.class.getDeclaredMethods()) {
            if (m.getName().equals(name) && Modifier.isPublic(m.getModifiers())) return m;
        }
        return null;
    }

    private static String answerOf(HalfAJoke x, String name, String row) throws Exception {
        Method m = methodOf(name);
        if (m == null) return "no call";
        String[] told = row.isEmpty() ? new String[0] : row.split(", ");
        if (told.length != m.getParameterCount()) return "another call";
        Object[] arguments = new Object[told.length];
        for (int i = 0; i < told.length; i++) arguments[i] = Integer.decode(told[i]);
        return String.valueOf(m.invoke(x, arguments));
    }

    private static void example(String readme) throws Exception {
        int from = readme.indexOf("```java\n");
        int to = from < 0 ? -1 : readme.indexOf("```", from + 8);
        Check.due("there is an example", to >= 0, true);
        if (to < 0) return;
        HalfAJoke x = new HalfAJoke();
        String[] lines = readme.substring(from + 8, to).split("\n");
        Check.due("it begins", lines[0], "HalfAJoke x = new HalfAJoke();");
        for (int i = 1; i < lines.length; i++) {
            Matcher m = STATEMENT.matcher(lines[i]);
            boolean right = m.matches();
            Check.due("a call with its answer: " + lines[i], right, true);
            if (right) Check.due(lines[i], answerOf(x, m.group(1), m.group(2)), m.group(3));
        }
    }

    private static void law(String readme) {
        Matcher m = Pattern.compile("`(laugh .*;)`").matcher(readme);
        boolean there = m.find();
        Check.due("there is a law", there, true);
        if (there) Check.due(m.group(1), Check.text(new HalfAJoke(), m.group(1)), 2);
    }

    private static void calls(String readme) {
        for (Method m : HalfAJoke.class.getDeclaredMethods()) {
            if (Modifier.isPublic(m.getModifiers())) {
                Check.due(m.getName() + " is told", readme.contains("`" + m.getName() + "`"), true);
            }
        }
    }

    private static void tests(String readme) {
        String[] files = Path.of("src/test/java").toFile().list();
        for (String file : files == null ? new String[0] : files) {
            String name = file.replace(".java", "");
            if (name.endsWith("Test")) Check.due(name + " is told", readme.contains("| `" + name + "` |"), true);
        }
    }

    public static void main(String[] args) throws Exception {
        String readme = Files.readString(Path.of("README.md"), StandardCharsets.UTF_8);
        example(readme);
        law(readme);
        calls(readme);
        tests(readme);
        Check.finish();
    }
}
