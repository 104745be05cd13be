import java.io.IOException;
import java.lang.reflect.Constructor;
import java.lang.reflect.Field;
import java.lang.reflect.Method;
import java.lang.reflect.Modifier;
import java.util.Arrays;
import java.util.Set;
import java.util.TreeSet;
import java.util.regex.Matcher;
import java.util.regex.Pattern;

/** The document's public face, and what LANGUAGE.md says of the class's members. */
public final class FaceTest {
    private static final Check check = new Check();

    private static final Pattern CONSTANT =
        Pattern.compile("public static final int (\\w+ = \\d+);");
    private static final Pattern CALL =
        Pattern.compile("public ((?:(?:void|int|boolean) )?\\w+)\\(([^)]*)\\)");

    private static final Set<Class<?>> TYPES = Set.of(int.class, long.class, short.class,
        byte.class, char.class, boolean.class, int[].class, long[].class, short[].class,
        byte[].class, char[].class, boolean[].class);

    public static void main(String[] args) throws IOException, IllegalAccessException {
        String face = new Document().section("The public face");
        same("public constants", publicConstants(), documentsConstants(face));
        same("public constructor and methods", publicCalls(), documentsCalls(face));
        everythingRead(face);
        theClass();
        fields();
        methods();
        check.end();
    }

    private static Set<String> documentsConstants(String face) {
        Set<String> found = new TreeSet<>();
        Matcher constant = CONSTANT.matcher(face);
        while (constant.find()) {
            found.add(constant.group(1));
        }
        return found;
    }

    /** Each with the types of its parameters alone, as in "int node[int, int, int]". */
    private static Set<String> documentsCalls(String face) {
        Set<String> found = new TreeSet<>();
        Matcher call = CALL.matcher(face);
        while (call.find()) {
            found.add(call.group(1) + "[" + call.group(2).replaceAll(" \\w+(,|$)", "$1") + "]");
        }
        return found;
    }

    private static void everythingRead(String face) {
        String left = CALL.matcher(CONSTANT.matcher(face).replaceAll("")).replaceAll("");
        String frame = left.replaceAll("\\s+", " ").trim();
        check.due("read of the face, all but " + frame,
            frame.equals("java public final class DefuncMl { }"), true);
    }

    private static void same(String what, Set<String> got, Set<String> want) {
        Set<String> more = new TreeSet<>(got);
        more.removeAll(want);
        Set<String> missing = new TreeSet<>(want);
        missing.removeAll(got);
        check.due(what + ", too many " + more, more.size(), 0);
        check.due(what + ", missing " + missing, missing.size(), 0);
    }

    /** Each as in "K_NUM = 1". */
    static Set<String> publicConstants() throws IllegalAccessException {
        Set<String> found = new TreeSet<>();
        for (Field field : DefuncMl.class.getDeclaredFields()) {
            int modifiers = field.getModifiers();
            if (Modifier.isPublic(modifiers)) {
                boolean constant = Modifier.isStatic(modifiers) && Modifier.isFinal(modifiers)
                    && field.getType() == int.class;
                String value = constant ? "" + field.getInt(null) : "no constant";
                found.add(field.getName() + " = " + value);
            }
        }
        return found;
    }

    private static Set<String> publicCalls() {
        Set<String> found = new TreeSet<>();
        for (Constructor<?> constructor : DefuncMl.class.getConstructors()) {
            found.add(constructor.getName() + Arrays.toString(constructor.getParameterTypes()));
        }
        for (Method method : DefuncMl.class.getDeclaredMethods()) {
            if (Modifier.isPublic(method.getModifiers())) {
                found.add(method.getReturnType() + " " + method.getName()
                    + Arrays.toString(method.getParameterTypes()));
            }
        }
        return found;
    }

    private static void theClass() {
        int modifiers = DefuncMl.class.getModifiers();
        check.due("public", Modifier.isPublic(modifiers), true);
        check.due("final", Modifier.isFinal(modifiers), true);
        check.due("superclass is Object", DefuncMl.class.getSuperclass() == Object.class, true);
        check.due("interfaces", DefuncMl.class.getInterfaces().length, 0);
        check.due("nested classes", DefuncMl.class.getDeclaredClasses().length, 0);
        check.due("constructors", DefuncMl.class.getDeclaredConstructors().length, 1);
    }

    private static void fields() {
        int own = 0;
        for (Field field : DefuncMl.class.getDeclaredFields()) {
            int modifiers = field.getModifiers();
            String what = "field " + field.getName();
            check.due(what + " has a plain type", TYPES.contains(field.getType()), true);
            check.due(what + " is public or private",
                Modifier.isPublic(modifiers) || Modifier.isPrivate(modifiers), true);
            if (Modifier.isStatic(modifiers)) {
                check.due(what + " is a constant", Modifier.isFinal(modifiers)
                    && (field.getType() == int.class || field.getType() == long.class), true);
            } else {
                own++;
            }
        }
        check.due("at most forty fields: " + own, own <= 40, true);
    }

    private static void methods() {
        Set<String> names = new TreeSet<>();
        for (Method method : DefuncMl.class.getDeclaredMethods()) {
            int modifiers = method.getModifiers();
            String what = "method " + method.getName();
            check.due(what + " has a name of its own", names.add(method.getName()), true);
            check.due(what + " is public or private",
                Modifier.isPublic(modifiers) || Modifier.isPrivate(modifiers), true);
            check.due(what + " has at most seven parameters", method.getParameterCount() <= 7, true);
            check.due(what + " answers no array", method.getReturnType().isArray(), false);
        }
    }
}
