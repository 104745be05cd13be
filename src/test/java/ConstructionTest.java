/** Promises 1 and 2: the clamped arguments, the starting state, and the way back to it. */
public final class ConstructionTest {
    private static final Check check = new Check();

    private static final int[] BUDGETS =
        {Integer.MIN_VALUE, -1, 0, 1, 2, 3, 33, 63, 64, 65, 128, Integer.MAX_VALUE};
    private static final int[] CLAMPED_BUDGETS = {1, 1, 1, 1, 2, 3, 33, 63, 64, 64, 64, 64};
    private static final int[] DEPTHS =
        {Integer.MIN_VALUE, -1, 0, 1, 2, 5, 7, 8, 9, 64, Integer.MAX_VALUE};
    private static final int[] CLAMPED_DEPTHS = {1, 1, 1, 1, 2, 5, 7, 8, 8, 8, 8};

    public static void main(String[] args) {
        budgetIsClamped();
        depthIsClamped();
        startIsEmpty();
        resetClearsEveryState();
        resetLeavesAUsableObject();
        check.end();
    }

    private static void budgetIsClamped() {
        for (int i = 0; i < BUDGETS.length; i++) {
            DefuncMl x = new DefuncMl(BUDGETS[i], 8);
            seeBudget("budget " + BUDGETS[i], x, CLAMPED_BUDGETS[i]);
            x.reset();
            seeBudget("budget " + BUDGETS[i] + " after reset", x, CLAMPED_BUDGETS[i]);
        }
    }

    private static void seeBudget(String what, DefuncMl x, int want) {
        Term.feed(x, Term.wideLoop());
        check.due(what + ": compile", x.compile(), DefuncMl.OK);
        check.due(what + ": run", x.run(), DefuncMl.ERR_BUDGET);
        check.due(what + ": unitsUsed", x.unitsUsed(), want);
    }

    private static void depthIsClamped() {
        for (int i = 0; i < DEPTHS.length; i++) {
            DefuncMl x = new DefuncMl(64, DEPTHS[i]);
            seeDepth("maxDepth " + DEPTHS[i], x, CLAMPED_DEPTHS[i]);
            x.reset();
            seeDepth("maxDepth " + DEPTHS[i] + " after reset", x, CLAMPED_DEPTHS[i]);
        }
    }

    private static void seeDepth(String what, DefuncMl x, int want) {
        Term.feed(x, Term.deepLoop());
        check.due(what + ": compile", x.compile(), DefuncMl.OK);
        check.runs(what, x, DefuncMl.ERR_DEPTH, want + 1, want);
    }

    private static void startIsEmpty() {
        for (int budget : BUDGETS) {
            for (int depth : DEPTHS) {
                DefuncMl x = new DefuncMl(budget, depth);
                check.startingState("new DefuncMl(" + budget + ", " + depth + ")", x);
            }
        }
    }

    private static void resetClearsEveryState() {
        DefuncMl x = new DefuncMl(64, 8);
        resets("empty", x);

        x.node(DefuncMl.K_ADD, 0, 0);
        resets("incomplete", x);

        Term.feed(x, Term.num(7));
        resets("complete", x);

        Term.feed(x, Term.fun(0, Term.var(1)));
        check.due("compile", x.compile(), DefuncMl.ERR_SCOPE);
        resets("refused for scope", x);

        Term.feed(x, Term.fun(0, Term.fun(1, Term.var(0))));
        check.due("compile", x.compile(), DefuncMl.OK);
        resets("compiled", x);

        Term.feed(x, Term.pair(Term.num(1), Term.app(Term.fun(0, Term.var(0)), Term.num(2))));
        check.due("compile", x.compile(), DefuncMl.OK);
        check.runs("to be reset", x, DefuncMl.OK, 3, 1);
        resets("run", x);

        Term.feed(x, Term.deepLoop());
        check.due("compile", x.compile(), DefuncMl.OK);
        check.runs("to be reset", x, DefuncMl.ERR_DEPTH, 9, 8);
        resets("run with an error", x);

        for (int i = 0; i < DefuncMl.MAX_NODES; i++) {
            x.node(DefuncMl.K_ADD, 0, 0);
        }
        check.due("node", x.node(DefuncMl.K_NUM, 0, 0), DefuncMl.ERR_FULL);
        resets("full", x);
    }

    private static void resets(String state, DefuncMl x) {
        x.reset();
        check.startingState("reset when " + state, x);
        check.due("compile after reset when " + state, x.compile(), DefuncMl.ERR_INCOMPLETE);
        check.refusedRun("after reset when " + state, x);
        x.reset();
        check.startingState("reset twice when " + state, x);
    }

    private static void resetLeavesAUsableObject() {
        DefuncMl x = Term.compiled(10, 3, Term.fun(0, Term.fun(1, Term.fun(2, Term.var(0)))));
        check.due("lambdaCount before", x.lambdaCount(), 3);
        x.run();
        x.reset();
        Term.feed(x, Term.add(Term.num(1), Term.fun(3, Term.num(4))));
        check.due("nodeCount after", x.nodeCount(), 4);
        check.due("compile after", x.compile(), DefuncMl.OK);
        check.due("lambdaCount after", x.lambdaCount(), 1);
        check.due("lambdaNode(0) after", x.lambdaNode(0), 2);
        check.due("freeVars(0) after", x.freeVars(0), 0);
        check.due("lambdaNode(1) after", x.lambdaNode(1), -1);
        check.notRun("compiled again", x);
        check.runs("after reset", x, DefuncMl.ERR_NOT_INT, 1, 0);
    }
}
