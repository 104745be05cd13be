import java.io.IOException;
import java.nio.file.Files;
import java.nio.file.Path;
import java.util.LinkedHashMap;
import java.util.Map;
import java.util.Set;
import java.util.TreeSet;
import java.util.regex.Matcher;
import java.util.regex.Pattern;

/**
 * Rules of LANGUAGE.md that can be read off the source as it is laid out here: methods start with
 * four spaces and a modifier and end with four spaces and a brace.
 */
public final class LanguageTest {
    private static final Check check = new Check();
    private static final Path SOURCE = Path.of("src/main/java/DefuncMl.java");

    private static final Pattern FORBIDDEN = Pattern.compile("\\b(package|import|class|interface"
        + "|enum|record|float|double|String|Object|Math|Integer|Long|System|Arrays|null|throw|throws"
        + "|try|catch|synchronized|assert|instanceof|protected|equals|hashCode|toString|getClass)\\b"
        + "|->|::|\"|\\[\\]\\[");
    private static final Pattern CLASS_NAME = Pattern.compile("\\b[A-Z]+[a-z]\\w*");
    private static final Pattern ARRAY =
        Pattern.compile("    private final (int|long)\\[\\] \\w+ = new \\1\\[[A-Z_]+\\];");
    private static final Pattern HEAD = Pattern.compile(
        "    (public|private) (?:static )?(?:(?:int|long|boolean|void) )?(\\w+)\\(([^)]*)\\) \\{");
    private static final Pattern CALL = Pattern.compile("\\b([a-z]\\w*)\\(");
    private static final Pattern LOOP = Pattern.compile("\\b(for|while|do)\\b");
    private static final Pattern COUNTED =
        Pattern.compile("for \\(int (\\w+) = [^;]+; \\1 (?:<|>=) [^;|]+; \\1(?:\\+\\+|--)\\) \\{");

    public static void main(String[] args) throws IOException {
        String source = Files.readString(SOURCE).replaceAll("(?s)/\\*.*?\\*/", "")
            .replaceAll("//[^\n]*", "");
        forbiddenWords(source);
        arrays(source);
        Map<String, String> bodies = methodBodies(source);
        callGraph(bodies);
        nestedCalls(bodies);
        for (String name : bodies.keySet()) {
            countedLoops(name, bodies.get(name));
        }
        check.end();
    }

    private static void forbiddenWords(String source) {
        Matcher word = FORBIDDEN.matcher(source.replaceFirst("public final class DefuncMl", ""));
        while (word.find()) {
            check.due("forbidden word " + word.group() + " stands", true, false);
        }
        Matcher name = CLASS_NAME.matcher(source);
        while (name.find()) {
            check.due("name of another class: " + name.group(), name.group().equals("DefuncMl"),
                true);
        }
    }

    private static void arrays(String source) {
        for (String line : source.split("\n")) {
            if (line.contains("new ")) {
                check.due("array made in a field: " + line, ARRAY.matcher(line).matches(), true);
            }
        }
    }

    private static Map<String, String> methodBodies(String source) {
        Map<String, String> bodies = new LinkedHashMap<>();
        String name = null;
        StringBuilder body = new StringBuilder();
        int lines = 0;
        for (String line : source.split("\n")) {
            Matcher head = HEAD.matcher(line);
            if (head.matches()) {
                name = head.group(2);
                body.setLength(0);
                lines = 0;
            } else if (name != null && line.equals("    }")) {
                check.due(name + " has at most sixty lines: " + lines, lines <= 60, true);
                bodies.put(name, body.toString());
                name = null;
            } else if (name != null) {
                body.append(line).append('\n');
                lines++;
            }
        }
        int constructor = 1;
        check.due("methods found", bodies.size(),
            DefuncMl.class.getDeclaredMethods().length + constructor);
        return bodies;
    }

    private static Set<String> calls(String body, Map<String, String> bodies) {
        Set<String> called = new TreeSet<>();
        Matcher call = CALL.matcher(body);
        while (call.find()) {
            boolean known = bodies.containsKey(call.group(1));
            check.due(call.group(1) + " is a method of the class", known, true);
            if (known) {
                called.add(call.group(1));
            }
        }
        return called;
    }

    private static void callGraph(Map<String, String> bodies) {
        for (String name : bodies.keySet()) {
            int deep = depth(name, bodies, 1);
            check.due(name + " calls at most six deep: " + deep, deep <= 6, true);
        }
    }

    /** Stops at seven, which a recursion reaches too. */
    private static int depth(String name, Map<String, String> bodies, int at) {
        int deepest = at;
        if (at <= 6) {
            for (String called : calls(bodies.get(name), bodies)) {
                deepest = Math.max(deepest, depth(called, bodies, at + 1));
            }
        }
        return deepest;
    }

    private static void nestedCalls(Map<String, String> bodies) {
        for (Map.Entry<String, String> entry : bodies.entrySet()) {
            String body = entry.getValue();
            Matcher call = CALL.matcher(body);
            while (call.find()) {
                if (bodies.containsKey(call.group(1))) {
                    String arguments = arguments(body, call.end());
                    boolean nested = !calls(arguments, bodies).isEmpty();
                    check.due(entry.getKey() + " nests a call in " + call.group(1), nested, false);
                }
            }
        }
    }

    private static String arguments(String body, int start) {
        int open = 1;
        int end = start;
        while (open > 0) {
            char c = body.charAt(end);
            open += c == '(' ? 1 : c == ')' ? -1 : 0;
            end++;
        }
        return body.substring(start, end - 1);
    }

    /** Each loop counts one step a round towards a bound, and nothing else moves its counter. */
    private static void countedLoops(String method, String body) {
        int loops = count(LOOP, body);
        int counted = 0;
        Matcher loop = COUNTED.matcher(body);
        while (loop.find()) {
            counted++;
            String counter = loop.group(1);
            int heads = count(Pattern.compile("for \\(int " + counter + " ="), body);
            Pattern moves = Pattern.compile("\\b" + counter + " ?(=(?!=)|[-+*/%&|^]=|<<=|>>=|>>>=|"
                + "\\+\\+|--)|(\\+\\+|--)" + counter + "\\b");
            check.due(method + " moves " + counter, count(moves, body), 2 * heads);
        }
        check.due(method + " has counted loops alone", counted, loops);
    }

    private static int count(Pattern pattern, String text) {
        return (int) pattern.matcher(text).results().count();
    }
}
