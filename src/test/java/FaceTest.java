import java.lang.reflect.Constructor;
import java.lang.reflect.Field;
import java.lang.reflect.Method;
import java.lang.reflect.Modifier;
import java.util.Arrays;
import java.util.Set;
import java.util.TreeSet;

/** The document's public face, and what LANGUAGE.md says of the class's members. */
public final class FaceTest {
    private static final Check check = new Check();

    private static final Set<String> CONSTANTS = Set.of("MAX_NODES=32", "K_NUM=1", "K_VAR=2",
        "K_ADD=3", "K_SUB=4", "K_MUL=5", "K_DIV=6", "K_LT=7", "K_EQ=8", "K_IF=9", "K_PAIR=10",
        "K_FST=11", "K_SND=12", "K_FUN=13", "K_LET=14", "K_LETREC=15", "K_APP=16", "OK=0",
        "ERR_COMPLETE=1", "ERR_FULL=2", "ERR_KIND=3", "ERR_NAME=4", "ERR_INCOMPLETE=5",
        "ERR_SCOPE=6", "ERR_NOT_COMPILED=7", "ERR_NOT_INT=8", "ERR_NOT_FUN=9", "ERR_NOT_PAIR=10",
        "ERR_DIV=11", "ERR_BUDGET=12", "ERR_DEPTH=13", "NO_RESULT=14", "KIND_NONE=0", "KIND_INT=1",
        "KIND_PAIR=2", "KIND_FUN=3");

    private static final Set<String> METHODS = Set.of("void reset[]", "int node[int, int, int]",
        "int nodeCount[]", "boolean isComplete[]", "int compile[]", "boolean isCompiled[]",
        "int lambdaCount[]", "int lambdaNode[int]", "int freeVars[int]", "int run[]",
        "int lastOutcome[]", "int unitsUsed[]", "int peakDepth[]", "int resultKind[int, int]",
        "int resultValue[int, int]");

    private static final Set<Class<?>> TYPES = Set.of(int.class, long.class, short.class,
        byte.class, char.class, boolean.class, int[].class, long[].class, short[].class,
        byte[].class, char[].class, boolean[].class);

    public static void main(String[] args) throws IllegalAccessException {
        same("public constants", publicConstants(), CONSTANTS);
        same("public methods", publicMethods(), METHODS);
        theClass();
        fields();
        methods();
        check.end();
    }

    private static void same(String what, Set<String> got, Set<String> want) {
        Set<String> more = new TreeSet<>(got);
        more.removeAll(want);
        Set<String> missing = new TreeSet<>(want);
        missing.removeAll(got);
        check.due(what + ", too many " + more, more.size(), 0);
        check.due(what + ", missing " + missing, missing.size(), 0);
    }

    private static Set<String> publicConstants() throws IllegalAccessException {
        Set<String> found = new TreeSet<>();
        for (Field field : DefuncMl.class.getDeclaredFields()) {
            int modifiers = field.getModifiers();
            if (Modifier.isPublic(modifiers)) {
                boolean constant = Modifier.isStatic(modifiers) && Modifier.isFinal(modifiers)
                    && field.getType() == int.class;
                found.add(field.getName() + "=" + (constant ? field.getInt(null) : "no constant"));
            }
        }
        return found;
    }

    private static Set<String> publicMethods() {
        Set<String> found = new TreeSet<>();
        for (Method method : DefuncMl.class.getDeclaredMethods()) {
            if (Modifier.isPublic(method.getModifiers())) {
                found.add(method.getReturnType() + " " + method.getName()
                    + Arrays.toString(method.getParameterTypes()));
            }
        }
        return found;
    }

    private static void theClass() {
        int modifiers = DefuncMl.class.getModifiers();
        check.due("public", Modifier.isPublic(modifiers), true);
        check.due("final", Modifier.isFinal(modifiers), true);
        check.due("superclass is Object", DefuncMl.class.getSuperclass() == Object.class, true);
        check.due("interfaces", DefuncMl.class.getInterfaces().length, 0);
        check.due("nested classes", DefuncMl.class.getDeclaredClasses().length, 0);
        Constructor<?>[] constructors = DefuncMl.class.getDeclaredConstructors();
        check.due("constructors", constructors.length, 1);
        check.due("constructor is public", Modifier.isPublic(constructors[0].getModifiers()), true);
        check.due("constructor takes two ints",
            Arrays.equals(constructors[0].getParameterTypes(), new Class<?>[] {int.class, int.class}),
            true);
    }

    private static void fields() {
        int own = 0;
        for (Field field : DefuncMl.class.getDeclaredFields()) {
            int modifiers = field.getModifiers();
            String what = "field " + field.getName();
            check.due(what + " has a plain type", TYPES.contains(field.getType()), true);
            check.due(what + " is public or private",
                Modifier.isPublic(modifiers) || Modifier.isPrivate(modifiers), true);
            if (Modifier.isStatic(modifiers)) {
                check.due(what + " is a constant", Modifier.isFinal(modifiers)
                    && (field.getType() == int.class || field.getType() == long.class), true);
            } else {
                own++;
            }
        }
        check.due("at most forty fields: " + own, own <= 40, true);
    }

    private static void methods() {
        Set<String> names = new TreeSet<>();
        for (Method method : DefuncMl.class.getDeclaredMethods()) {
            int modifiers = method.getModifiers();
            String what = "method " + method.getName();
            check.due(what + " has a name of its own", names.add(method.getName()), true);
            check.due(what + " is public or private",
                Modifier.isPublic(modifiers) || Modifier.isPrivate(modifiers), true);
            check.due(what + " has at most seven parameters", method.getParameterCount() <= 7, true);
            check.due(what + " answers no array", method.getReturnType().isArray(), false);
        }
    }
}
