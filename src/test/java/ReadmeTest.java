import java.io.File;
import java.io.IOException;
import java.lang.reflect.InvocationTargetException;
import java.lang.reflect.Method;
import java.nio.file.Files;
import java.nio.file.Path;
import java.util.regex.Matcher;
import java.util.regex.Pattern;

/** README.md: each call of its example has the answer that stands behind it, and every test is named. */
public final class ReadmeTest {
    private static final Due DUE = new Due();
    private static final Pattern CALL = Pattern.compile("x\\.(\\w+)\\((.*)\\);\\s*// (throws (\\w+)|-?\\d+)([, ].*)?");

    public static void main(String[] args) throws IOException, ReflectiveOperationException {
        String readme = Files.readString(Path.of("README.md"));
        example(readme);
        String[] tests = new File("src/test/java").list((dir, name) -> name.endsWith(".java"));
        for (String file : tests == null ? new String[0] : tests) {
            String name = file.replace(".java", "");
            DUE.holds("README.md names " + name, readme.contains("`" + name + "`"));
        }
        DUE.holds("README.md tells the command", readme.contains("\n.ci/run\n") && new File(".ci/run").canExecute());
        DUE.end();
    }

    private static void example(String readme) throws ReflectiveOperationException {
        String begin = "```java\nSevenForms x = new SevenForms();\n";
        int from = readme.indexOf(begin) + begin.length();
        DUE.holds("README.md has an example", readme.contains(begin));
        SevenForms x = new SevenForms();
        int calls = 0;
        for (String line : readme.substring(from, readme.indexOf("```", from)).split("\n")) {
            if (line.isBlank() || line.startsWith("// ")) {
                continue;
            }
            Matcher told = CALL.matcher(line);
            DUE.holds("a call with its answer: " + line, told.matches());
            if (told.matches()) {
                String due = told.group(4) != null ? told.group(4) : told.group(3);
                String got = answer(x, told.group(1), told.group(2));
                DUE.holds(line + " answered " + got, got.equals(due));
                calls++;
            }
        }
        DUE.holds("the example has some calls: " + calls, calls > 20);
    }

    private static String answer(SevenForms x, String name, String words) throws ReflectiveOperationException {
        String[] told = words.isEmpty() ? new String[0] : words.split(", ");
        for (Method m : SevenForms.class.getMethods()) {
            Class<?>[] types = m.getParameterTypes();
            if (!m.getName().equals(name) || types.length != told.length) {
                continue;
            }
            Object[] given = new Object[told.length];
            for (int i = 0; i < told.length; i++) {
                given[i] = value(told[i], types[i]);
            }
            try {
                return String.valueOf(m.invoke(x, given));
            } catch (InvocationTargetException e) {
                return e.getCause().getClass().getSimpleName();
            }
        }
        return "no such call";
    }

    private static Object value(String word, Class<?> type) {
        if (type == char.class) {
            return word.charAt(1);
        }
        long v = word.equals("SevenForms.NONE") ? SevenForms.NONE : Long.decode(word.replace("L", ""));
        if (type == long.class) {
            return v;
        }
        return (int) v;
    }
}
