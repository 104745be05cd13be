import java.io.IOException;
import java.lang.reflect.InvocationTargetException;
import java.lang.reflect.Method;
import java.util.Arrays;
import java.util.Comparator;
import java.util.HashMap;
import java.util.List;
import java.util.Map;
import java.util.Set;

/**
 * Runs a test for each sentence of the document, boundary cases above all, and holds the sentences
 * that the tests name against the document: each must stand there, and none may stand there without
 * a test.
 */
public final class BoundaryTest {
    private static final List<Class<?>> TESTS = List.of(OverviewBoundaries.class,
        FormBoundaries.class, ScopeBoundaries.class, EvaluationBoundaries.class,
        ApplicationBoundaries.class, ConstructionBoundaries.class, NodeBoundaries.class,
        CompileBoundaries.class, RunBoundaries.class, ResultBoundaries.class);

    /** Words that only lead to the sentences around them: the section, then the words. */
    private static final String[][] LEADS = {
        {"What it is", "Public constants:"},
        {"Program form", "kind a b children (in order) meaning"},
        {"Program form", "Completeness is counted in open places."},
        {"Values and evaluation", "Values are of three sorts:"},
        {"Values and evaluation", "Let B be the clamped budget and D the clamped maxDepth."},
        {"Values and evaluation", "SPEND means:"},
        {"Promise 1", "The object starts empty:"},
        {"Promise 11", "Otherwise:"},
        {"Promise 16", "Depending on the kind reached it answers:"},
    };

    /** FaceTest holds the class against the first; the second leaves the class free. */
    private static final Set<String> NOT_TESTED_HERE = Set.of("The public face", "Not promised");

    private static final Check check = new Check();
    private static final Map<String, boolean[]> told = new HashMap<>();
    private static Document document;

    public static void main(String[] args) throws IOException, IllegalAccessException {
        document = new Document();
        for (Class<?> tests : TESTS) {
            runTests(tests);
        }
        check.at("");
        for (String[] lead : LEADS) {
            tell(lead[0], lead[1]);
        }
        for (String section : document.names()) {
            if (!NOT_TESTED_HERE.contains(section)) {
                allTold(section);
            }
        }
        check.end();
    }

    private static void runTests(Class<?> tests) throws IllegalAccessException {
        Method[] methods = tests.getDeclaredMethods();
        Arrays.sort(methods, Comparator.comparing(Method::getName));
        for (Method method : methods) {
            Says says = method.getAnnotation(Says.class);
            if (says != null) {
                check.at(says.in() + ", \"" + says.sentence() + "\": ");
                tell(says.in(), says.sentence());
                runTest(method);
            }
        }
    }

    private static void runTest(Method method) throws IllegalAccessException {
        int before = check.asked();
        try {
            method.invoke(null, check);
        } catch (InvocationTargetException thrown) {
            check.due("threw " + thrown.getCause(), true, false);
        }
        check.due("asked something", check.asked() > before, true);
    }

    private static void tell(String section, String words) {
        String text = document.section(section);
        boolean[] marks = told.computeIfAbsent(section, name -> new boolean[text.length()]);
        int at = text.indexOf(words);
        check.due(section + " says \"" + words + "\"", at >= 0, true);
        while (at >= 0) {
            Arrays.fill(marks, at, at + words.length(), true);
            at = text.indexOf(words, at + 1);
        }
    }

    private static void allTold(String section) {
        String text = document.section(section);
        boolean[] marks = told.getOrDefault(section, new boolean[text.length()]);
        StringBuilder left = new StringBuilder();
        for (int i = 0; i < text.length(); i++) {
            left.append(marks[i] ? ' ' : text.charAt(i));
        }
        boolean all = left.chars().noneMatch(Character::isLetter);
        check.due(section + " without a test: " + left.toString().trim(), all, true);
    }
}
