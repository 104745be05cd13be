/** All promises at once: the class and the model get the same calls and must answer the same. */
public final class ModelTest {
    private static final int[] ODD =
        {Integer.MIN_VALUE, -2, -1, 0, 1, 7, 8, 16, 17, 31, 32, 64, 65, Integer.MAX_VALUE};

    private static final Check check = new Check();
    private static final Programs programs = new Programs(20261115L);
    private static final int[] seen = new int[DefuncMl.NO_RESULT + 1];

    public static void main(String[] args) {
        for (int i = 0; i < 30000; i++) {
            wholeProgram(i);
        }
        for (int i = 0; i < 400; i++) {
            anyCalls(i);
        }
        everyOutcomeWasSeen();
        check.end();
    }

    private static int limit(int most) {
        return programs.oneIn(10) ? ODD[programs.below(ODD.length)] : 1 + programs.below(most);
    }

    private static void wholeProgram(int number) {
        int budget = programs.oneIn(2) ? 64 : limit(64);
        int depth = programs.oneIn(2) ? 8 : limit(8);
        int[] term = programs.program();
        String where = "program " + number;
        DefuncMl x = new DefuncMl(budget, depth);
        Model model = new Model(budget, depth);
        for (int i = 0; i < term.length; i += 3) {
            int answer = x.node(term[i], term[i + 1], term[i + 2]);
            check.due(where + ": node", answer, model.node(term[i], term[i + 1], term[i + 2]));
        }
        check.due(where + ": compile", x.compile(), model.compile());
        for (int i = 0; i < 2; i++) {
            int outcome = x.run();
            seen[outcome]++;
            check.due(where + ": run", outcome, model.run());
            sameState(where, x, model);
        }
    }

    private static void sameState(String where, DefuncMl x, Model model) {
        check.due(where + ": nodeCount", x.nodeCount(), model.nodeCount());
        check.due(where + ": isComplete", x.isComplete(), model.isComplete());
        check.due(where + ": isCompiled", x.isCompiled(), model.isCompiled());
        check.due(where + ": lambdaCount", x.lambdaCount(), model.lambdaCount());
        for (int tag = -1; tag <= model.lambdaCount(); tag++) {
            check.due(where + ": lambdaNode", x.lambdaNode(tag), model.lambdaNode(tag));
            check.due(where + ": freeVars", x.freeVars(tag), model.freeVars(tag));
        }
        check.due(where + ": lastOutcome", x.lastOutcome(), model.lastOutcome());
        check.due(where + ": unitsUsed", x.unitsUsed(), model.unitsUsed());
        check.due(where + ": peakDepth", x.peakDepth(), model.peakDepth());
        for (int steps = 0; steps <= 4; steps++) {
            for (int path = 0; path < 1 << steps; path++) {
                sameResult(where, x, model, steps, path);
            }
        }
        for (int steps = -1; steps <= 17; steps++) {
            sameResult(where, x, model, steps, programs.below(1 << 16) - (1 << 15));
            sameResult(where, x, model, steps, 0);
            sameResult(where, x, model, steps, -1);
        }
    }

    private static void sameResult(String where, DefuncMl x, Model model, int steps, int path) {
        String walk = "(" + steps + ", " + path + ")";
        check.due(where + ": resultKind" + walk, x.resultKind(steps, path),
            model.resultKind(steps, path));
        check.due(where + ": resultValue" + walk, x.resultValue(steps, path),
            model.resultValue(steps, path));
    }

    /** One object through many programs, with refused and repeated calls in between. */
    private static void anyCalls(int number) {
        int budget = limit(64);
        int depth = limit(8);
        String where = "calls " + number;
        DefuncMl x = new DefuncMl(budget, depth);
        Model model = new Model(budget, depth);
        int[] term = programs.program();
        int at = 0;
        for (int i = 0; i < 150; i++) {
            switch (programs.below(12)) {
                case 0:
                    check.due(where + ": compile", x.compile(), model.compile());
                    break;
                case 1:
                    check.due(where + ": run", x.run(), model.run());
                    break;
                case 2:
                    oddNode(where, x, model);
                    break;
                case 3:
                    if (programs.oneIn(4)) {
                        x.reset();
                        model.reset();
                        term = programs.program();
                        at = 0;
                    }
                    break;
                default:
                    if (at < term.length) {
                        sameNode(where, x, model, term[at], term[at + 1], term[at + 2]);
                        at += 3;
                    }
                    break;
            }
            sameState(where, x, model);
        }
    }

    private static void oddNode(String where, DefuncMl x, Model model) {
        int kind = programs.oneIn(2) ? ODD[programs.below(ODD.length)] : 1 + programs.below(16);
        int a = ODD[programs.below(ODD.length)];
        int b = ODD[programs.below(ODD.length)];
        sameNode(where, x, model, kind, a, b);
    }

    private static void sameNode(String where, DefuncMl x, Model model, int kind, int a, int b) {
        check.due(where + ": node(" + kind + ", " + a + ", " + b + ")", x.node(kind, a, b),
            model.node(kind, a, b));
    }

    /** Else the programs would not say much. */
    private static void everyOutcomeWasSeen() {
        int[] outcomes = {DefuncMl.OK, DefuncMl.ERR_NOT_COMPILED, DefuncMl.ERR_NOT_INT,
            DefuncMl.ERR_NOT_FUN, DefuncMl.ERR_NOT_PAIR, DefuncMl.ERR_DIV, DefuncMl.ERR_BUDGET,
            DefuncMl.ERR_DEPTH};
        for (int outcome : outcomes) {
            check.due("outcome " + outcome + " seen often", seen[outcome] > 100, true);
        }
    }
}
