import java.io.IOException;
import java.lang.reflect.Field;
import java.lang.reflect.Method;
import java.lang.reflect.Modifier;
import java.nio.file.Files;
import java.nio.file.Path;
import java.util.Arrays;
import java.util.List;
import java.util.regex.Matcher;
import java.util.regex.Pattern;
import java.util.stream.Stream;

/** README.md: its example answers as it says, and no call, constant or test is left out. */
public final class ReadmeTest {
    private static final Path SOURCE = Path.of("README.md");
    private static final Path TESTS = Path.of("src/test/java");

    private static final Pattern START = Pattern.compile("DefuncMl x = new DefuncMl\\((.*)\\);.*");
    private static final Pattern CALL = Pattern.compile("x\\.(\\w+)\\((.*?)\\);\\s*(?:// (.*))?");
    private static final Pattern ANSWER =
        Pattern.compile("(DefuncMl\\.\\w+|-?\\d+|true|false)(?:: .*)?");

    private static final Check check = new Check();

    public static void main(String[] args) throws IOException, ReflectiveOperationException {
        String readme = Files.readString(SOURCE);
        example(readme);
        everyMember(readme);
        everyTest(readme);
        check.end();
    }

    private static void example(String readme) throws ReflectiveOperationException {
        String code = readme.split("```java\n")[1].split("```")[0];
        DefuncMl x = null;
        int answers = 0;
        for (String line : code.split("\n")) {
            Matcher start = START.matcher(line);
            Matcher call = CALL.matcher(line);
            if (start.matches()) {
                int[] limits = ints(start.group(1));
                x = new DefuncMl(limits[0], limits[1]);
            } else if (call.matches()) {
                answers += exampleCall(x, call) ? 1 : 0;
            } else {
                check.due("a line of the example is read: " + line, line.isBlank(), true);
            }
        }
        check.due("answers in the example: " + answers, answers > 15, true);
    }

    /** Makes the call; answers whether the example tells what it answers. */
    private static boolean exampleCall(DefuncMl x, Matcher call)
        throws ReflectiveOperationException {
        Object got = invoke(x, call.group(1), ints(call.group(2)));
        Matcher answer = ANSWER.matcher(call.group(3) == null ? "" : call.group(3));
        if (!answer.matches()) {
            return false;
        }
        int number = got instanceof Boolean ? ((Boolean) got ? 1 : 0) : (Integer) got;
        check.due(call.group(), number, value(answer.group(1)));
        return true;
    }

    private static Object invoke(DefuncMl x, String name, int[] arguments)
        throws ReflectiveOperationException {
        Class<?>[] types = new Class<?>[arguments.length];
        Arrays.fill(types, int.class);
        Object[] values = Arrays.stream(arguments).boxed().toArray();
        return DefuncMl.class.getMethod(name, types).invoke(x, values);
    }

    private static int[] ints(String list) throws ReflectiveOperationException {
        String[] words = list.isEmpty() ? new String[0] : list.split(", ");
        int[] values = new int[words.length];
        for (int i = 0; i < words.length; i++) {
            values[i] = value(words[i]);
        }
        return values;
    }

    private static int value(String word) throws ReflectiveOperationException {
        if (word.startsWith("DefuncMl.")) {
            return DefuncMl.class.getField(word.substring("DefuncMl.".length())).getInt(null);
        }
        if (word.equals("true") || word.equals("false")) {
            return word.equals("true") ? 1 : 0;
        }
        return Integer.parseInt(word);
    }

    private static void everyMember(String readme) {
        for (Method method : DefuncMl.class.getDeclaredMethods()) {
            if (Modifier.isPublic(method.getModifiers())) {
                String call = "`" + method.getName() + "(";
                check.due("README.md tells of " + call, readme.contains(call), true);
            }
        }
        for (Field constant : DefuncMl.class.getFields()) {
            String name = "`" + constant.getName() + "`";
            check.due("README.md tells of " + name, readme.contains(name), true);
        }
    }

    private static void everyTest(String readme) throws IOException {
        List<String> files;
        try (Stream<Path> paths = Files.list(TESTS)) {
            files = paths.map(path -> path.getFileName().toString()).toList();
        }
        for (String file : files) {
            if (file.endsWith("Test.java")) {
                String row = "| `" + file.replace(".java", "") + "` |";
                check.due("README.md tells of " + file, readme.contains(row), true);
            }
        }
    }
}
