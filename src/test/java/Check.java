import java.util.Map;
import java.util.function.Consumer;
import java.util.function.Supplier;
import java.util.function.ToIntFunction;

/** Counts and prints the answers of one test that are not the ones due. */
final class Check {
    private int wrong = 0;
    private int asked = 0;
    private String place = "";

    /** Tells where the answers from now on belong. */
    void at(String newPlace) {
        place = newPlace;
    }

    int asked() {
        return asked;
    }

    void due(String what, long got, long want) {
        asked++;
        if (got != want) {
            wrong++;
            System.out.println(place + what + " answered " + got + ", due is " + want);
        }
    }

    void due(String what, boolean got, boolean want) {
        due(what, got ? 1L : 0L, want ? 1L : 0L);
    }

    /** Everything that Promise 1 says of an object without nodes. */
    void startingState(String where, DefuncMl x) {
        due(where + ": nodeCount", x.nodeCount(), 0);
        due(where + ": isComplete", x.isComplete(), false);
        notCompiled(where, x);
        notRun(where, x);
    }

    void notCompiled(String where, DefuncMl x) {
        due(where + ": isCompiled", x.isCompiled(), false);
        due(where + ": lambdaCount", x.lambdaCount(), 0);
        for (int tag : new int[] {Integer.MIN_VALUE, -1, 0, 1, 31, 32, Integer.MAX_VALUE}) {
            due(where + ": lambdaNode(" + tag + ")", x.lambdaNode(tag), -1);
            due(where + ": freeVars(" + tag + ")", x.freeVars(tag), -1);
        }
    }

    void notRun(String where, DefuncMl x) {
        due(where + ": lastOutcome", x.lastOutcome(), DefuncMl.NO_RESULT);
        due(where + ": unitsUsed", x.unitsUsed(), 0);
        due(where + ": peakDepth", x.peakDepth(), 0);
        noResult(where, x);
    }

    void noResult(String where, DefuncMl x) {
        for (int steps : new int[] {Integer.MIN_VALUE, -1, 0, 1, 2, 16, 17, Integer.MAX_VALUE}) {
            for (int path : new int[] {Integer.MIN_VALUE, -1, 0, 1, Integer.MAX_VALUE}) {
                String walk = "(" + steps + ", " + path + ")";
                due(where + ": resultKind" + walk, x.resultKind(steps, path), DefuncMl.KIND_NONE);
                due(where + ": resultValue" + walk, x.resultValue(steps, path), 0);
            }
        }
    }

    void refusedRun(String where, DefuncMl x) {
        due(where + ": run", x.run(), DefuncMl.ERR_NOT_COMPILED);
    }

    /** Runs a compiled program and looks at all that a run leaves but its result. */
    void runs(String what, DefuncMl x, int outcome, int units, int peak) {
        due(what + ": run", x.run(), outcome);
        due(what + ": lastOutcome", x.lastOutcome(), outcome);
        due(what + ": unitsUsed", x.unitsUsed(), units);
        due(what + ": peakDepth", x.peakDepth(), peak);
    }

    /** A new object with these limits runs the program; answers the object, for its result. */
    DefuncMl ends(String what, int[] term, int budget, int maxDepth, int outcome, int units,
        int peak) {
        DefuncMl x = Term.compiled(budget, maxDepth, term);
        runs(what, x, outcome, units, peak);
        if (outcome != DefuncMl.OK) {
            noResult(what, x);
        }
        return x;
    }

    /** The program's value is this int. */
    void gives(String what, int[] term, int value) {
        DefuncMl x = Term.compiled(64, 8, term);
        due(what + ": run", x.run(), DefuncMl.OK);
        result(what, x, 0, 0, DefuncMl.KIND_INT, value);
    }

    void result(String what, DefuncMl x, int steps, int path, int kind, int value) {
        String walk = "(" + steps + ", " + path + ")";
        due(what + ": resultKind" + walk, x.resultKind(steps, path), kind);
        due(what + ": resultValue" + walk, x.resultValue(steps, path), value);
    }

    /**
     * Objects from both makers answer the questions alike. Each question gets objects of its own,
     * so that no trace can be hidden by another question.
     */
    void alike(String what, Map<String, ToIntFunction<DefuncMl>> questions, Supplier<DefuncMl> got,
        Supplier<DefuncMl> want) {
        for (Map.Entry<String, ToIntFunction<DefuncMl>> each : questions.entrySet()) {
            ToIntFunction<DefuncMl> question = each.getValue();
            due(what + ": " + each.getKey(), question.applyAsInt(got.get()),
                question.applyAsInt(want.get()));
        }
    }

    /** After the call, an object in each of the states answers as one does without it. */
    void noTrace(Map<String, ToIntFunction<DefuncMl>> questions,
        Map<String, Supplier<DefuncMl>> states, Consumer<DefuncMl> call) {
        for (Map.Entry<String, Supplier<DefuncMl>> state : states.entrySet()) {
            Supplier<DefuncMl> called = () -> {
                DefuncMl x = state.getValue().get();
                call.accept(x);
                return x;
            };
            alike(state.getKey(), questions, called, state.getValue());
        }
    }

    void noTrace(Map<String, Supplier<DefuncMl>> states, Consumer<DefuncMl> call) {
        noTrace(Questions.all(), states, call);
    }

    void end() {
        System.out.println(asked + " answers, " + wrong + " not as due");
        if (wrong != 0) {
            System.exit(1);
        }
    }
}
