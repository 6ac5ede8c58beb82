import java.io.IOException;
import java.lang.reflect.Method;
import java.lang.reflect.Modifier;
import java.nio.file.Files;
import java.nio.file.Path;
import java.util.List;
import java.util.regex.Matcher;
import java.util.regex.Pattern;
import java.util.stream.Stream;

/** What README.md shows is what the class does, and it names every call and every test. */
public final class ReadmeTest {
    private static final Path README = Path.of("README.md");
    private static final Path TESTS = Path.of("src/test/java");

    private static final Pattern EXAMPLE = Pattern.compile("(?s)```java\n(.*?)```");
    // One call with its arguments, and the answer with which the comment begins.
    private static final Pattern CALL = Pattern.compile("(?:int t = )?x\\.(\\w+)\\((.*?)\\);\\s*// (-?\\d+|true|false)\\b.*");

    private static final Due DUE = new Due();

    public static void main(String[] args) throws IOException, ReflectiveOperationException {
        String text = Files.readString(README);
        int examples = 0;
        Matcher example = EXAMPLE.matcher(text);
        while (example.find()) {
            examples++;
            DUE.part("example " + examples);
            run(example.group(1).lines().toList());
        }
        DUE.part("README.md");
        DUE.yes("has examples", examples > 0);
        for (Method method : CommitGroups.class.getDeclaredMethods()) {
            if (Modifier.isPublic(method.getModifiers())) {
                DUE.yes("names " + method.getName(), text.contains("`" + method.getName() + "("));
            }
        }
        try (Stream<Path> files = Files.list(TESTS)) {
            files.map(file -> file.getFileName().toString())
                    .filter(name -> name.endsWith("Test.java"))
                    .forEach(name -> DUE.yes("names " + name, text.contains("`" + name.replace(".java", "") + "`")));
        }
        DUE.end();
    }

    private static void run(List<String> lines) throws ReflectiveOperationException {
        CommitGroups x = new CommitGroups();
        DUE.yes("begins with a new object", lines.get(0).equals("CommitGroups x = new CommitGroups();"));
        for (String line : lines.subList(1, lines.size())) {
            Matcher call = CALL.matcher(line);
            if (!call.matches()) {
                DUE.yes("a call and its answer: " + line, false);
                continue;
            }
            Object got = answer(x, call.group(1), call.group(2));
            DUE.yes(line + " (answered " + got + ")", String.valueOf(got).equals(call.group(3)));
        }
    }

    private static Object answer(CommitGroups x, String name, String arguments) throws ReflectiveOperationException {
        String[] told = arguments.isEmpty() ? new String[0] : arguments.split(", ");
        for (Method method : CommitGroups.class.getDeclaredMethods()) {
            if (method.getName().equals(name) && method.getParameterCount() == told.length) {
                Object[] values = new Object[told.length];
                for (int i = 0; i < told.length; i++) {
                    values[i] = value(told[i], method.getParameterTypes()[i]);
                }
                return method.invoke(x, values);
            }
        }
        return "no such call";
    }

    // An example's transaction is the first one of its object.
    private static Object value(String told, Class<?> type) {
        if (type == boolean.class) {
            return Boolean.valueOf(told);
        }
        return told.equals("t") ? 1 : Integer.parseInt(told);
    }
}
