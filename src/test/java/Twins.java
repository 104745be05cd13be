/** The class and the model side by side: they get the same calls and must answer the same. */
final class Twins {
    private final Check check;
    private final String where;
    private final DefuncMl x;
    private final Model model;

    Twins(Check check, String where, int budget, int maxDepth) {
        this.check = check;
        this.where = where;
        x = new DefuncMl(budget, maxDepth);
        model = new Model(budget, maxDepth);
    }

    private int same(String call, int got, int want) {
        check.due(where + ": " + call, got, want);
        return got;
    }

    void reset() {
        x.reset();
        model.reset();
    }

    int node(int kind, int a, int b) {
        String call = "node(" + kind + ", " + a + ", " + b + ")";
        return same(call, x.node(kind, a, b), model.node(kind, a, b));
    }

    void feed(int[] term) {
        for (int i = 0; i < term.length; i += 3) {
            node(term[i], term[i + 1], term[i + 2]);
        }
    }

    int compile() {
        return same("compile", x.compile(), model.compile());
    }

    int run() {
        return same("run", x.run(), model.run());
    }

    /** Everything but the result. */
    void sameState() {
        same("nodeCount", x.nodeCount(), model.nodeCount());
        check.due(where + ": isComplete", x.isComplete(), model.isComplete());
        check.due(where + ": isCompiled", x.isCompiled(), model.isCompiled());
        same("lambdaCount", x.lambdaCount(), model.lambdaCount());
        for (int tag = -1; tag <= model.lambdaCount(); tag++) {
            same("lambdaNode(" + tag + ")", x.lambdaNode(tag), model.lambdaNode(tag));
            same("freeVars(" + tag + ")", x.freeVars(tag), model.freeVars(tag));
        }
        same("lastOutcome", x.lastOutcome(), model.lastOutcome());
        same("unitsUsed", x.unitsUsed(), model.unitsUsed());
        same("peakDepth", x.peakDepth(), model.peakDepth());
    }

    /** Every walk of at most so many steps. */
    void sameResults(int mostSteps) {
        for (int steps = 0; steps <= mostSteps; steps++) {
            for (int path = 0; path < 1 << steps; path++) {
                sameResult(steps, path);
            }
        }
    }

    void sameResult(int steps, int path) {
        String walk = "(" + steps + ", " + path + ")";
        same("resultKind" + walk, x.resultKind(steps, path), model.resultKind(steps, path));
        same("resultValue" + walk, x.resultValue(steps, path), model.resultValue(steps, path));
    }
}
