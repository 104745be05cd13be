/** Promises 11 to 14: run, its outcome, its units and its peak. */
public final class RunTest {
    private static final Check check = new Check();
    private static final int[] ZERO = Term.num(0);
    private static final int[] IDENTITY = Term.fun(0, Term.var(0));

    public static void main(String[] args) {
        refusedRunsChangeNothing();
        budgetAtEachKindOfNode();
        budgetAcrossManyUnits();
        depthLimits();
        orderOfApplicationChecks();
        runsAreRepeatable();
        laterRunsDropTheResult();
        runLeavesTheProgramAlone();
        widestRun();
        deepestStack();
        check.end();
    }

    private static void refusedRunsChangeNothing() {
        DefuncMl x = new DefuncMl(9, 9);
        check.refusedRun("empty", x);
        check.startingState("empty", x);
        x.node(DefuncMl.K_NUM, 4, 0);
        check.refusedRun("not compiled", x);
        check.due("not compiled: nodeCount", x.nodeCount(), 1);
        check.notRun("not compiled", x);
        check.due("compile after a refused run", x.compile(), DefuncMl.OK);
        check.runs("compiled", x, DefuncMl.OK, 0, 0);
    }

    /** The program asks for exactly so many units, so one less is too few. */
    private static void needs(String what, int[] term, int units, int peak) {
        DefuncMl enough = Term.compiled(units, 8, term);
        check.runs(what + " with " + units, enough, DefuncMl.OK, units, peak);
        if (units > 1) {
            DefuncMl less = Term.compiled(units - 1, 8, term);
            check.due(what + ", one less: run", less.run(), DefuncMl.ERR_BUDGET);
            check.due(what + ", one less: lastOutcome", less.lastOutcome(), DefuncMl.ERR_BUDGET);
            check.due(what + ", one less: unitsUsed", less.unitsUsed(), units - 1);
            check.noResult(what + ", one less", less);
        }
    }

    private static void budgetAtEachKindOfNode() {
        needs("fun", IDENTITY, 1, 0);
        needs("pair", Term.pair(ZERO, ZERO), 1, 0);
        needs("let", Term.let(0, ZERO, ZERO), 1, 0);
        needs("letrec", Term.letrec(0, 1, ZERO, ZERO), 1, 0);
        needs("two funs", Term.fst(Term.pair(ZERO, IDENTITY)), 2, 0);
        needs("two pairs", Term.pair(ZERO, Term.pair(ZERO, ZERO)), 2, 0);
        needs("two lets", Term.let(0, ZERO, Term.let(1, ZERO, ZERO)), 2, 0);
        needs("two letrecs", Term.letrec(0, 1, ZERO, Term.letrec(0, 1, ZERO, ZERO)), 2, 0);
        needs("application", Term.app(IDENTITY, ZERO), 2, 1);
        needs("let of fun, applied", Term.let(1, IDENTITY, Term.app(Term.var(1), ZERO)), 3, 1);
        // A let is paid for after its e1 and before its e2.
        DefuncMl late = Term.compiled(1, 8, Term.let(0, IDENTITY, Term.div(ZERO, ZERO)));
        check.runs("let after e1", late, DefuncMl.ERR_BUDGET, 1, 0);
        DefuncMl early = Term.compiled(1, 8, Term.let(0, Term.div(ZERO, ZERO), IDENTITY));
        check.runs("let before e1", early, DefuncMl.ERR_DIV, 0, 0);
        DefuncMl rec = Term.compiled(1, 8, Term.letrec(0, 1, ZERO, Term.div(ZERO, ZERO)));
        check.runs("letrec before e2", rec, DefuncMl.ERR_DIV, 1, 0);
        DefuncMl pair = Term.compiled(1, 8, Term.pair(IDENTITY, Term.div(ZERO, ZERO)));
        check.runs("pair after second", pair, DefuncMl.ERR_DIV, 1, 0);
    }

    private static void budgetAcrossManyUnits() {
        for (int budget = 1; budget <= 64; budget++) {
            DefuncMl x = Term.compiled(budget, 8, Term.wideLoop());
            int peak = budget - 1 < 8 ? budget - 1 : 8;
            check.runs("wide loop with " + budget, x, DefuncMl.ERR_BUDGET, budget, peak);
            check.noResult("wide loop with " + budget, x);
        }
    }

    private static void depthLimits() {
        for (int depth = 1; depth <= 8; depth++) {
            DefuncMl x = Term.compiled(64, depth, Term.lineLoop(depth - 1));
            check.runs("to depth " + depth, x, DefuncMl.OK, depth + 1, depth);
            check.result("to depth " + depth, x, 0, 0, DefuncMl.KIND_INT, 77);
            DefuncMl y = Term.compiled(64, depth, Term.lineLoop(depth));
            check.runs("past depth " + depth, y, DefuncMl.ERR_DEPTH, depth + 1, depth);
            check.noResult("past depth " + depth, y);
        }
        // Depth counts bodies, not applications whose function or argument is being evaluated.
        int[] arguments = ZERO;
        for (int i = 0; i < 9; i++) {
            arguments = Term.app(IDENTITY, arguments);
        }
        DefuncMl x = Term.compiled(64, 1, arguments);
        check.runs("nine nested arguments", x, DefuncMl.OK, 18, 1);
    }

    private static void orderOfApplicationChecks() {
        // deepLoop spends 1 for the letrec and 1 for each application.
        DefuncMl both = Term.compiled(4, 3, Term.deepLoop());
        check.runs("budget and depth at once", both, DefuncMl.ERR_BUDGET, 4, 3);
        DefuncMl depth = Term.compiled(5, 3, Term.deepLoop());
        check.runs("depth with a unit left", depth, DefuncMl.ERR_DEPTH, 4, 3);
        DefuncMl budget = Term.compiled(4, 4, Term.deepLoop());
        check.runs("budget with depth left", budget, DefuncMl.ERR_BUDGET, 4, 3);
        DefuncMl notFun = Term.compiled(1, 1, Term.let(0, ZERO, Term.app(Term.var(0), ZERO)));
        check.runs("not a function, no unit left", notFun, DefuncMl.ERR_NOT_FUN, 1, 0);
        DefuncMl deepNotFun = Term.compiled(64, 1,
            Term.app(Term.fun(0, Term.app(Term.var(0), ZERO)), ZERO));
        check.runs("not a function, no depth left", deepNotFun, DefuncMl.ERR_NOT_FUN, 2, 1);
    }

    private static void runsAreRepeatable() {
        DefuncMl good = Term.compiled(64, 8, Term.pair(Term.lineLoop(2), IDENTITY));
        DefuncMl bad = Term.compiled(64, 2, Term.lineLoop(2));
        for (int i = 0; i < 5; i++) {
            check.runs("good again", good, DefuncMl.OK, 6, 3);
            check.result("good again", good, 0, 0, DefuncMl.KIND_PAIR, 0);
            check.result("good again", good, 1, 0, DefuncMl.KIND_INT, 77);
            check.result("good again", good, 1, 1, DefuncMl.KIND_FUN, 1);
            check.runs("bad again", bad, DefuncMl.ERR_DEPTH, 3, 2);
            check.noResult("bad again", bad);
        }
    }

    private static void laterRunsDropTheResult() {
        DefuncMl x = Term.compiled(64, 8, Term.lineLoop(3));
        check.runs("before reset", x, DefuncMl.OK, 5, 4);
        x.reset();
        check.refusedRun("after reset", x);
        check.startingState("after a refused run", x);
        Term.feed(x, Term.div(ZERO, ZERO));
        check.due("compile", x.compile(), DefuncMl.OK);
        check.notRun("compiled anew", x);
        check.runs("a run without units", x, DefuncMl.ERR_DIV, 0, 0);
        check.noResult("a run with an error", x);
    }

    private static void runLeavesTheProgramAlone() {
        DefuncMl x = Term.compiled(64, 8, Term.let(5, Term.num(1),
            Term.letrec(0, 1, Term.fun(2, Term.add(Term.var(5), Term.var(1))), Term.var(0))));
        for (int i = 0; i < 3; i++) {
            check.due("program: nodeCount", x.nodeCount(), 8);
            check.due("program: isComplete", x.isComplete(), true);
            check.due("program: isCompiled", x.isCompiled(), true);
            check.due("program: lambdaCount", x.lambdaCount(), 2);
            check.due("program: lambdaNode(0)", x.lambdaNode(0), 2);
            check.due("program: lambdaNode(1)", x.lambdaNode(1), 3);
            check.due("program: freeVars(0)", x.freeVars(0), 32);
            check.due("program: freeVars(1)", x.freeVars(1), 34);
            check.runs("program", x, DefuncMl.OK, 2, 0);
            check.result("program", x, 0, 0, DefuncMl.KIND_FUN, 0);
        }
    }

    /** 63 applications of a body with many nodes: a run with many steps. */
    private static void widestRun() {
        int[] less = Term.sub(Term.var(1), Term.num(1));
        int[] twice = Term.add(Term.app(Term.var(0), less), Term.app(Term.var(0), less));
        int[] body = Term.iff(Term.var(1), twice, Term.num(1));
        for (int i = 0; i < 6; i++) {
            body = Term.add(body, Term.num(0));
        }
        int[] term = Term.letrec(0, 1, body, Term.app(Term.var(0), Term.num(5)));
        DefuncMl x = Term.compiled(64, 8, term);
        check.due("widest: nodeCount", x.nodeCount(), 30);
        check.runs("widest", x, DefuncMl.OK, 64, 6);
        check.result("widest", x, 0, 0, DefuncMl.KIND_INT, 32);
    }

    /** Eight active bodies, each with as many waiting nodes as the tree allows. */
    private static void deepestStack() {
        int[] call = Term.app(Term.var(0), Term.var(1));
        for (int i = 0; i < 25; i++) {
            call = Term.snd(call);
        }
        int[] term = Term.letrec(0, 1, call, Term.app(Term.var(0), ZERO));
        DefuncMl x = Term.compiled(64, 8, term);
        check.due("deepest: nodeCount", x.nodeCount(), 32);
        // More than once, because what one run left waiting must not be there in the next.
        for (int i = 0; i < 20; i++) {
            check.runs("deepest", x, DefuncMl.ERR_DEPTH, 9, 8);
        }
    }
}
