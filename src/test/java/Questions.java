import java.util.LinkedHashMap;
import java.util.Map;
import java.util.function.ToIntFunction;

/** What can be asked of an object to learn its state; each question may use the object up. */
final class Questions {
    private static final int[] TAGS = {-1, 0, 1, 2, 3, 30, 31, 32};
    private static final int[][] WALKS = {{0, 0}, {1, 0}, {1, 1}, {2, 0}, {2, 1}, {2, 2}, {2, 3},
        {3, 0}, {3, -1}, {16, 0}, {16, -1}, {17, 0}, {17, -1}, {-1, 0}};

    private Questions() {
    }

    static Map<String, ToIntFunction<DefuncMl>> all() {
        Map<String, ToIntFunction<DefuncMl>> all = ofTheProgram();
        all.putAll(ofTheRun());
        all.putAll(ofTheCallsToCome());
        return all;
    }

    static Map<String, ToIntFunction<DefuncMl>> ofTheProgram() {
        Map<String, ToIntFunction<DefuncMl>> asked = ofCompiling();
        asked.put("nodeCount()", DefuncMl::nodeCount);
        asked.put("isComplete()", x -> x.isComplete() ? 1 : 0);
        return asked;
    }

    static Map<String, ToIntFunction<DefuncMl>> ofCompiling() {
        Map<String, ToIntFunction<DefuncMl>> asked = new LinkedHashMap<>();
        asked.put("isCompiled()", x -> x.isCompiled() ? 1 : 0);
        asked.put("lambdaCount()", DefuncMl::lambdaCount);
        for (int tag : TAGS) {
            asked.put("lambdaNode(" + tag + ")", x -> x.lambdaNode(tag));
            asked.put("freeVars(" + tag + ")", x -> x.freeVars(tag));
        }
        return asked;
    }

    static Map<String, ToIntFunction<DefuncMl>> ofTheRun() {
        Map<String, ToIntFunction<DefuncMl>> asked = new LinkedHashMap<>();
        asked.put("lastOutcome()", DefuncMl::lastOutcome);
        asked.put("unitsUsed()", DefuncMl::unitsUsed);
        asked.put("peakDepth()", DefuncMl::peakDepth);
        for (int[] walk : WALKS) {
            String arguments = "(" + walk[0] + ", " + walk[1] + ")";
            asked.put("resultKind" + arguments, x -> x.resultKind(walk[0], walk[1]));
            asked.put("resultValue" + arguments, x -> x.resultValue(walk[0], walk[1]));
        }
        return asked;
    }

    /** These tell what can't be seen at once: the nodes themselves, and the open places. */
    private static Map<String, ToIntFunction<DefuncMl>> ofTheCallsToCome() {
        Map<String, ToIntFunction<DefuncMl>> asked = new LinkedHashMap<>();
        asked.put("compile()", DefuncMl::compile);
        asked.put("run()", DefuncMl::run);
        asked.put("leaves that it takes", Questions::leavesTaken);
        asked.put("refusal of one leaf more", x -> {
            leavesTaken(x);
            return x.node(DefuncMl.K_NUM, 0, 0);
        });
        asked.put("compile() with leaves", x -> {
            leavesTaken(x);
            return x.compile();
        });
        asked.put("run() with leaves", Questions::runWithLeaves);
        for (Map.Entry<String, ToIntFunction<DefuncMl>> later : ofTheRun().entrySet()) {
            asked.put("run() with leaves, then " + later.getKey(), x -> {
                runWithLeaves(x);
                return later.getValue().applyAsInt(x);
            });
        }
        return asked;
    }

    private static int leavesTaken(DefuncMl x) {
        int taken = 0;
        while (taken < 100 && x.node(DefuncMl.K_NUM, 100 + taken, 0) == DefuncMl.OK) {
            taken++;
        }
        return taken;
    }

    private static int runWithLeaves(DefuncMl x) {
        leavesTaken(x);
        x.compile();
        return x.run();
    }
}
