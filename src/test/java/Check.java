/** Counts and prints the answers of one test that are not the ones due. */
final class Check {
    private int wrong = 0;
    private int asked = 0;

    void due(String what, long got, long want) {
        asked++;
        if (got != want) {
            wrong++;
            System.out.println(what + " answered " + got + ", due is " + want);
        }
    }

    void due(String what, boolean got, boolean want) {
        due(what, got ? 1L : 0L, want ? 1L : 0L);
    }

    /** Everything that Promise 1 says of an object without nodes. */
    void startingState(String where, DefuncMl x) {
        due(where + ": nodeCount", x.nodeCount(), 0);
        due(where + ": isComplete", x.isComplete(), false);
        notCompiled(where, x);
        notRun(where, x);
    }

    void notCompiled(String where, DefuncMl x) {
        due(where + ": isCompiled", x.isCompiled(), false);
        due(where + ": lambdaCount", x.lambdaCount(), 0);
        for (int tag : new int[] {Integer.MIN_VALUE, -1, 0, 1, 31, 32, Integer.MAX_VALUE}) {
            due(where + ": lambdaNode(" + tag + ")", x.lambdaNode(tag), -1);
            due(where + ": freeVars(" + tag + ")", x.freeVars(tag), -1);
        }
    }

    void notRun(String where, DefuncMl x) {
        due(where + ": lastOutcome", x.lastOutcome(), DefuncMl.NO_RESULT);
        due(where + ": unitsUsed", x.unitsUsed(), 0);
        due(where + ": peakDepth", x.peakDepth(), 0);
        noResult(where, x);
    }

    void noResult(String where, DefuncMl x) {
        for (int steps : new int[] {Integer.MIN_VALUE, -1, 0, 1, 2, 16, 17, Integer.MAX_VALUE}) {
            for (int path : new int[] {Integer.MIN_VALUE, -1, 0, 1, Integer.MAX_VALUE}) {
                String walk = "(" + steps + ", " + path + ")";
                due(where + ": resultKind" + walk, x.resultKind(steps, path), DefuncMl.KIND_NONE);
                due(where + ": resultValue" + walk, x.resultValue(steps, path), 0);
            }
        }
    }

    void refusedRun(String where, DefuncMl x) {
        due(where + ": run", x.run(), DefuncMl.ERR_NOT_COMPILED);
    }

    /** Runs a compiled program and looks at all that a run leaves but its result. */
    void runs(String what, DefuncMl x, int outcome, int units, int peak) {
        due(what + ": run", x.run(), outcome);
        due(what + ": lastOutcome", x.lastOutcome(), outcome);
        due(what + ": unitsUsed", x.unitsUsed(), units);
        due(what + ": peakDepth", x.peakDepth(), peak);
    }

    void result(String what, DefuncMl x, int steps, int path, int kind, int value) {
        String walk = "(" + steps + ", " + path + ")";
        due(what + ": resultKind" + walk, x.resultKind(steps, path), kind);
        due(what + ": resultValue" + walk, x.resultValue(steps, path), value);
    }

    void end() {
        System.out.println(asked + " answers, " + wrong + " not as due");
        if (wrong != 0) {
            System.exit(1);
        }
    }
}
