import java.io.IOException;
import java.lang.reflect.Method;
import java.lang.reflect.Modifier;
import java.nio.charset.StandardCharsets;
import java.nio.file.DirectoryStream;
import java.nio.file.Files;
import java.nio.file.Path;
import java.util.HashMap;
import java.util.Map;
import java.util.regex.Matcher;
import java.util.regex.Pattern;

/** README.md: each call in it with the answer behind it, and that it names every call and every test. */
public final class ReadmeTest {
    private static final String REFUSALS =
        "A refused call changes nothing but the tape, which is empty behind each call that takes it.";
    private static final Pattern BLOCK = Pattern.compile("```java\n(.*?)```", Pattern.DOTALL);
    private static final Pattern LINE =
        Pattern.compile("(?:int (\\w+) = )?x\\.(\\w+)\\(([^)]*)\\); +// (true|false|-?\\d+): .+");
    private static final Checks c = new Checks();

    private final IcePilots it = new IcePilots();
    private final Map<String, Integer> names = new HashMap<>();

    public static void main(String[] args) throws Exception {
        String readme = Files.readString(Path.of("README.md"), StandardCharsets.UTF_8);
        new ReadmeTest().calls(readme);
        everyCall(readme);
        everyTest(readme);
        String inOneLine = readme.replaceAll("\\s+", " ");
        c.yes("what a refused call changes", inOneLine.contains(REFUSALS));
        c.finish("ReadmeTest");
    }

    /** All blocks are one run of calls on one object, which the first line makes. */
    private void calls(String readme) throws ReflectiveOperationException {
        Matcher block = BLOCK.matcher(readme);
        StringBuilder lines = new StringBuilder();
        while (block.find()) {
            lines.append(block.group(1));
        }
        String[] all = lines.toString().split("\n+");
        c.yes("the first line makes the object", all[0].equals("IcePilots x = new IcePilots();"));
        c.yes("it makes no more calls than are promised", all.length - 1 <= Run.MOST_CALLS);
        for (int k = 1; k < all.length; k++) {
            call(all[k]);
        }
    }

    private void call(String text) throws ReflectiveOperationException {
        Matcher line = LINE.matcher(text);
        if (!line.matches()) {
            c.no("README.md has a line that is no call with its answer: " + text, true);
            return;
        }
        Object answer = answer(line.group(2), line.group(3).isEmpty() ? new String[0] : line.group(3).split(", "));
        c.yes("README.md: " + text + " answered " + answer, line.group(4).equals(String.valueOf(answer)));
        if (line.group(1) != null) {
            names.put(line.group(1), (Integer) answer);
        }
    }

    private Object answer(String name, String[] arguments) throws ReflectiveOperationException {
        for (Method method : IcePilots.class.getDeclaredMethods()) {
            if (method.getName().equals(name) && method.getParameterCount() == arguments.length) {
                Object[] values = new Object[arguments.length];
                for (int k = 0; k < values.length; k++) {
                    values[k] = value(arguments[k], method.getParameterTypes()[k]);
                }
                return method.invoke(it, values);
            }
        }
        return "nothing, for there is no such call";
    }

    private Object value(String text, Class<?> type) {
        if (type == boolean.class) {
            return Boolean.valueOf(text);
        }
        return names.containsKey(text) ? names.get(text) : Integer.decode(text);
    }

    private static void everyCall(String readme) {
        for (Method method : IcePilots.class.getDeclaredMethods()) {
            if (Modifier.isPublic(method.getModifiers())) {
                c.yes("README.md names " + method.getName(), readme.contains("`" + method.getName() + "`"));
            }
        }
    }

    private static void everyTest(String readme) throws IOException {
        try (DirectoryStream<Path> tests = Files.newDirectoryStream(Path.of("src/test/java"), "*Test.java")) {
            for (Path test : tests) {
                String name = test.getFileName().toString().replace(".java", "");
                c.yes("README.md names " + name, readme.contains("| `" + name + "` |"));
            }
        }
    }
}
