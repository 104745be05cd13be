/** Promises 6 to 10: compiling, scope, the tags of lambdas and their free variables. */
public final class CompileTest {
    private static final Check check = new Check();

    public static void main(String[] args) {
        incompleteIsRefused();
        scopeOfFun();
        scopeOfLet();
        scopeOfLetRec();
        scopeThroughOtherKinds();
        scopeRefusalIsLasting();
        compileTwice();
        compileLeavesTheRunAlone();
        programWithoutLambdas();
        tagsFollowFeeding();
        freeVariablesOfFun();
        freeVariablesOfLetRec();
        freeVariablesOfMany();
        check.end();
    }

    private static void incompleteIsRefused() {
        DefuncMl x = new DefuncMl(9, 9);
        check.due("no nodes: compile", x.compile(), DefuncMl.ERR_INCOMPLETE);
        check.startingState("no nodes", x);
        // The variable is out of scope, but the tree is looked at first.
        x.node(DefuncMl.K_ADD, 0, 0);
        x.node(DefuncMl.K_VAR, 3, 0);
        check.due("half: compile", x.compile(), DefuncMl.ERR_INCOMPLETE);
        check.notCompiled("half", x);
        check.due("half: nodeCount", x.nodeCount(), 2);
        check.due("more after it", x.node(DefuncMl.K_NUM, 1, 0), DefuncMl.OK);
        check.due("whole: compile", x.compile(), DefuncMl.ERR_SCOPE);

        DefuncMl y = new DefuncMl(9, 9);
        y.node(DefuncMl.K_FUN, 2, 0);
        check.due("open fun: compile", y.compile(), DefuncMl.ERR_INCOMPLETE);
        check.due("open fun: more", y.node(DefuncMl.K_VAR, 2, 0), DefuncMl.OK);
        check.due("closed fun: compile", y.compile(), DefuncMl.OK);
        check.due("closed fun: isCompiled", y.isCompiled(), true);
    }

    private static void compiles(String what, int[] term, int want) {
        DefuncMl x = Term.fed(9, 9, term);
        check.due(what + ": isCompiled before", x.isCompiled(), false);
        check.due(what + ": compile", x.compile(), want);
        check.due(what + ": isCompiled", x.isCompiled(), want == DefuncMl.OK);
        if (want != DefuncMl.OK) {
            check.notCompiled(what, x);
        }
        check.due(what + ": nodeCount", x.nodeCount(), term.length / 3);
        check.notRun(what, x);
    }

    private static void inScope(String what, int[] term) {
        compiles(what, term, DefuncMl.OK);
    }

    private static void outOfScope(String what, int[] term) {
        compiles(what, term, DefuncMl.ERR_SCOPE);
    }

    private static void scopeOfFun() {
        for (int name = 0; name < 8; name++) {
            outOfScope("lone variable " + name, Term.var(name));
            inScope("fun " + name, Term.fun(name, Term.var(name)));
            outOfScope("fun of another " + name, Term.fun((name + 1) % 8, Term.var(name)));
        }
        inScope("outer fun", Term.fun(1, Term.fun(2, Term.var(1))));
        inScope("same name twice", Term.fun(1, Term.fun(1, Term.var(1))));
        outOfScope("beside a fun", Term.app(Term.fun(1, Term.var(1)), Term.var(1)));
    }

    private static void scopeOfLet() {
        inScope("let in e2", Term.let(3, Term.num(1), Term.var(3)));
        outOfScope("let in e1", Term.let(3, Term.var(3), Term.num(1)));
        outOfScope("let in both", Term.let(3, Term.var(3), Term.var(3)));
        inScope("let in e1 with an outer one",
            Term.let(3, Term.num(1), Term.let(3, Term.var(3), Term.var(3))));
        outOfScope("past a let", Term.add(Term.let(3, Term.num(1), Term.var(3)), Term.var(3)));
    }

    private static void scopeOfLetRec() {
        inScope("f in e1", Term.letrec(1, 2, Term.var(1), Term.num(0)));
        inScope("x in e1", Term.letrec(1, 2, Term.var(2), Term.num(0)));
        inScope("f in e2", Term.letrec(1, 2, Term.num(0), Term.var(1)));
        outOfScope("x in e2", Term.letrec(1, 2, Term.num(0), Term.var(2)));
        inScope("f == x in e1 and e2", Term.letrec(1, 1, Term.var(1), Term.var(1)));
        outOfScope("another in e1", Term.letrec(1, 2, Term.var(3), Term.num(0)));
        outOfScope("another in e2", Term.letrec(1, 2, Term.num(0), Term.var(3)));
        outOfScope("past a letrec",
            Term.app(Term.letrec(1, 2, Term.num(0), Term.var(1)), Term.var(1)));
        inScope("x in e2 with an outer one",
            Term.fun(2, Term.letrec(1, 2, Term.num(0), Term.var(2))));
    }

    private static void scopeThroughOtherKinds() {
        for (int kind = DefuncMl.K_ADD; kind <= DefuncMl.K_EQ; kind++) {
            scopeThroughTwo(kind);
        }
        scopeThroughTwo(DefuncMl.K_PAIR);
        scopeThroughTwo(DefuncMl.K_APP);
        int[] zero = Term.num(0);
        int[] v = Term.var(4);
        outOfScope("if, cond", Term.iff(v, zero, zero));
        outOfScope("if, then", Term.iff(zero, v, zero));
        outOfScope("if, else", Term.iff(zero, zero, v));
        inScope("if, all", Term.fun(4, Term.iff(v, v, v)));
        outOfScope("fst", Term.fst(v));
        outOfScope("snd", Term.snd(v));
        inScope("fst and snd", Term.fun(4, Term.fst(Term.snd(v))));
    }

    private static void scopeThroughTwo(int kind) {
        int[] zero = Term.num(0);
        int[] v = Term.var(4);
        outOfScope("kind " + kind + ", left", Term.op(kind, v, zero));
        outOfScope("kind " + kind + ", right", Term.op(kind, zero, v));
        inScope("kind " + kind + ", both", Term.fun(4, Term.op(kind, v, v)));
    }

    private static void scopeRefusalIsLasting() {
        DefuncMl x = Term.fed(9, 9, Term.fun(0, Term.var(1)));
        for (int i = 0; i < 3; i++) {
            check.due("scope: compile", x.compile(), DefuncMl.ERR_SCOPE);
            check.due("scope: isComplete", x.isComplete(), true);
            check.due("scope: nodeCount", x.nodeCount(), 2);
            check.due("scope: node", x.node(DefuncMl.K_NUM, 0, 0), DefuncMl.ERR_COMPLETE);
            check.notCompiled("scope", x);
            check.refusedRun("scope", x);
            check.notRun("scope", x);
        }
    }

    private static void compileTwice() {
        DefuncMl x = Term.compiled(9, 9, Term.let(0, Term.num(2), Term.fun(1, Term.var(0))));
        x.run();
        for (int i = 0; i < 3; i++) {
            check.due("again: compile", x.compile(), DefuncMl.OK);
            check.due("again: isCompiled", x.isCompiled(), true);
            check.due("again: lambdaCount", x.lambdaCount(), 1);
            check.due("again: lambdaNode(0)", x.lambdaNode(0), 2);
            check.due("again: freeVars(0)", x.freeVars(0), 1);
            check.due("again: unitsUsed", x.unitsUsed(), 2);
            check.result("again", x, 0, 0, DefuncMl.KIND_FUN, 0);
        }
    }

    private static void compileLeavesTheRunAlone() {
        DefuncMl x = Term.compiled(9, 9, Term.app(Term.fun(0, Term.var(0)), Term.num(3)));
        check.notRun("compiled", x);
        check.runs("compiled", x, DefuncMl.OK, 2, 1);
        check.due("after the run: compile", x.compile(), DefuncMl.OK);
        check.due("after the run: lastOutcome", x.lastOutcome(), DefuncMl.OK);
        check.due("after the run: unitsUsed", x.unitsUsed(), 2);
        check.due("after the run: peakDepth", x.peakDepth(), 1);
        check.result("after the run", x, 0, 0, DefuncMl.KIND_INT, 3);
    }

    private static void programWithoutLambdas() {
        DefuncMl x = Term.fed(9, 9, Term.let(0, Term.num(1), Term.var(0)));
        check.notCompiled("without lambdas, before compile", x);
        check.due("without lambdas: compile", x.compile(), DefuncMl.OK);
        check.due("without lambdas: lambdaCount", x.lambdaCount(), 0);
        check.due("without lambdas: lambdaNode(0)", x.lambdaNode(0), -1);
        check.due("without lambdas: freeVars(0)", x.freeVars(0), -1);
    }

    private static void tagsFollowFeeding() {
        int[] term = Term.letrec(0, 1, Term.fun(2, Term.num(0)),
            Term.pair(Term.fun(3, Term.num(0)), Term.letrec(4, 5, Term.num(0), Term.num(0))));
        DefuncMl x = Term.fed(9, 9, term);
        check.notCompiled("tags, before compile", x);
        check.due("tags: compile", x.compile(), DefuncMl.OK);
        check.due("tags: lambdaCount", x.lambdaCount(), 4);
        int[] nodes = {0, 1, 4, 6};
        for (int tag = 0; tag < nodes.length; tag++) {
            check.due("tags: lambdaNode(" + tag + ")", x.lambdaNode(tag), nodes[tag]);
        }
        for (int tag : new int[] {Integer.MIN_VALUE, -4, -1, 4, 5, 32, Integer.MAX_VALUE}) {
            check.due("tags: lambdaNode(" + tag + ")", x.lambdaNode(tag), -1);
            check.due("tags: freeVars(" + tag + ")", x.freeVars(tag), -1);
        }

        int[] chain = Term.num(0);
        for (int i = 0; i < 31; i++) {
            chain = Term.fun(i % 8, chain);
        }
        DefuncMl y = Term.compiled(9, 9, chain);
        check.due("31 lambdas: lambdaCount", y.lambdaCount(), 31);
        check.due("31 lambdas: lambdaNode(30)", y.lambdaNode(30), 30);
        check.due("31 lambdas: lambdaNode(31)", y.lambdaNode(31), -1);
        check.due("31 lambdas: freeVars(31)", y.freeVars(31), -1);
    }

    /** Binds every name around the term; the term's lambdas then have the tags from 8 on. */
    private static int[] underAllNames(int[] term) {
        int[] whole = term;
        for (int name = 7; name >= 0; name--) {
            whole = Term.fun(name, whole);
        }
        return whole;
    }

    private static void freeOfFirst(String what, int[] lambda, int mask) {
        DefuncMl x = Term.compiled(9, 9, underAllNames(lambda));
        check.due(what + ": freeVars", x.freeVars(8), mask);
    }

    private static void freeVariablesOfFun() {
        freeOfFirst("fun, own name", Term.fun(2, Term.var(2)), 0);
        freeOfFirst("fun, no name", Term.fun(2, Term.num(2)), 0);
        for (int name = 0; name < 8; name++) {
            int own = (name + 3) % 8;
            freeOfFirst("fun, name " + name, Term.fun(own, Term.var(name)), 1 << name);
        }
        freeOfFirst("fun in fun", Term.fun(1, Term.fun(2, Term.add(Term.var(1), Term.var(3)))), 8);
        freeOfFirst("hidden by an inner fun", Term.fun(1, Term.fun(2, Term.var(2))), 0);
        freeOfFirst("hidden in one place only",
            Term.fun(1, Term.app(Term.fun(2, Term.var(2)), Term.var(2))), 4);
        freeOfFirst("let, e1", Term.fun(1, Term.let(2, Term.var(2), Term.num(0))), 4);
        freeOfFirst("let, e2", Term.fun(1, Term.let(2, Term.num(0), Term.var(2))), 0);
        freeOfFirst("let, e1 and e2", Term.fun(1, Term.let(2, Term.var(3), Term.var(4))), 24);
        freeOfFirst("inner letrec, e1",
            Term.fun(1, Term.letrec(2, 3, Term.add(Term.var(2), Term.var(3)), Term.num(0))), 0);
        freeOfFirst("inner letrec, e2",
            Term.fun(1, Term.letrec(2, 3, Term.num(0), Term.add(Term.var(2), Term.var(3)))), 8);
        freeOfFirst("if", Term.fun(1, Term.iff(Term.var(0), Term.var(2), Term.var(7))), 133);
    }

    private static void freeVariablesOfLetRec() {
        freeOfFirst("letrec, f", Term.letrec(2, 3, Term.var(2), Term.num(0)), 0);
        freeOfFirst("letrec, x", Term.letrec(2, 3, Term.var(3), Term.num(0)), 0);
        freeOfFirst("letrec, f == x", Term.letrec(2, 2, Term.var(2), Term.num(0)), 0);
        freeOfFirst("letrec, another", Term.letrec(2, 3, Term.var(4), Term.num(0)), 16);
        freeOfFirst("letrec, e2 does not count",
            Term.letrec(2, 3, Term.var(4), Term.add(Term.var(5), Term.var(3))), 16);
        freeOfFirst("letrec, x in e2 does not count",
            Term.letrec(2, 3, Term.num(0), Term.var(3)), 0);
        freeOfFirst("letrec, all but its own",
            Term.letrec(7, 0, Term.add(Term.var(7), Term.add(Term.var(0), Term.var(6))),
                Term.num(0)), 64);
    }

    private static void freeVariablesOfMany() {
        int[] sum = sumOf(0, 1, 2, 3, 4, 5, 6, 7);
        DefuncMl x = Term.compiled(9, 9, underAllNames(sum));
        for (int tag = 0; tag < 8; tag++) {
            check.due("nested fun " + tag, x.freeVars(tag), (1 << tag) - 1);
        }
        // A fun whose own name is bound outside as well leaves seven names free.
        freeOfFirst("seven names", Term.fun(5, sum), 255 - 32);
        int[] closing = Term.let(0, Term.num(0), Term.fun(1, Term.letrec(2, 3, sumOf(0, 1, 2, 3),
            Term.var(2))));
        DefuncMl y = Term.compiled(9, 9, closing);
        check.due("fun around letrec", y.freeVars(0), 1);
        check.due("letrec in fun", y.freeVars(1), 3);
    }

    private static int[] sumOf(int... names) {
        int[] sum = Term.var(names[0]);
        for (int i = 1; i < names.length; i++) {
            sum = Term.add(sum, Term.var(names[i]));
        }
        return sum;
    }
}
