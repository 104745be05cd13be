/** Promises 3, 4 and 5: feeding nodes, counting them, and knowing when the tree is complete. */
public final class NodeTest {
    private static final Check check = new Check();
    private static final int[] CHILDREN = {0, 0, 0, 2, 2, 2, 2, 2, 2, 3, 2, 1, 1, 1, 2, 2, 2};
    private static final int[] ODD = {Integer.MIN_VALUE, -1, 8, 9, 31, 255, Integer.MAX_VALUE};

    public static void main(String[] args) {
        eachKindOpensItsPlaces();
        nestedPlacesAreCounted();
        kindsOutsideAreRefused();
        badNamesAreRefused();
        goodNamesAreTaken();
        ignoredArgumentsNeverRefuse();
        constantsMayBeAnyInt();
        fullAndCompleteAreToldApart();
        refusalsComeInOrder();
        nodeLeavesTheRunAlone();
        check.end();
    }

    private static void eachKindOpensItsPlaces() {
        for (int kind = DefuncMl.K_NUM; kind <= DefuncMl.K_APP; kind++) {
            String what = "kind " + kind;
            DefuncMl x = new DefuncMl(5, 5);
            check.due(what + ": node", x.node(kind, 0, 0), DefuncMl.OK);
            for (int child = 0; child < CHILDREN[kind]; child++) {
                check.due(what + ": isComplete", x.isComplete(), false);
                check.due(what + ": nodeCount", x.nodeCount(), 1 + child);
                check.due(what + ": child", x.node(DefuncMl.K_NUM, child, 0), DefuncMl.OK);
            }
            check.due(what + ": isComplete", x.isComplete(), true);
            check.due(what + ": nodeCount", x.nodeCount(), 1 + CHILDREN[kind]);
            check.due(what + ": one more", x.node(DefuncMl.K_NUM, 0, 0), DefuncMl.ERR_COMPLETE);
            check.due(what + ": nodeCount", x.nodeCount(), 1 + CHILDREN[kind]);
            check.due(what + ": isComplete", x.isComplete(), true);
        }
    }

    private static void nestedPlacesAreCounted() {
        int[] term = Term.iff(Term.fst(Term.var(0)), Term.let(1, Term.num(1), Term.var(1)),
            Term.pair(Term.fun(2, Term.num(3)), Term.snd(Term.num(4))));
        DefuncMl x = new DefuncMl(5, 5);
        for (int i = 0; i < term.length; i += 3) {
            check.due("nested: isComplete before " + i, x.isComplete(), false);
            check.due("nested: node", x.node(term[i], term[i + 1], term[i + 2]), DefuncMl.OK);
            check.due("nested: nodeCount", x.nodeCount(), i / 3 + 1);
        }
        check.due("nested: isComplete", x.isComplete(), true);
    }

    private static void kindsOutsideAreRefused() {
        int[] kinds = {Integer.MIN_VALUE, -16, -1, 0, 17, 18, 32, 257, Integer.MAX_VALUE};
        DefuncMl x = new DefuncMl(5, 5);
        for (int kind : kinds) {
            check.due("kind " + kind, x.node(kind, 0, 0), DefuncMl.ERR_KIND);
            check.due("kind " + kind + ", bad names", x.node(kind, -1, 8), DefuncMl.ERR_KIND);
        }
        check.startingState("after refused kinds", x);
    }

    private static void badNamesAreRefused() {
        int[] kinds = {DefuncMl.K_VAR, DefuncMl.K_FUN, DefuncMl.K_LET, DefuncMl.K_LETREC};
        DefuncMl x = new DefuncMl(5, 5);
        for (int name : ODD) {
            for (int kind : kinds) {
                String what = "kind " + kind + ", a " + name;
                check.due(what, x.node(kind, name, 0), DefuncMl.ERR_NAME);
            }
            check.due("letrec, b " + name, x.node(DefuncMl.K_LETREC, 0, name), DefuncMl.ERR_NAME);
            check.due("letrec, both " + name, x.node(DefuncMl.K_LETREC, name, name),
                DefuncMl.ERR_NAME);
        }
        check.startingState("after refused names", x);
        check.due("a good node after them", x.node(DefuncMl.K_NUM, 5, 0), DefuncMl.OK);
        check.due("nodeCount after them", x.nodeCount(), 1);
        check.due("isComplete after them", x.isComplete(), true);
    }

    private static void goodNamesAreTaken() {
        for (int name = 0; name < 8; name++) {
            int other = 7 - name;
            DefuncMl x = new DefuncMl(5, 5);
            check.due("fun " + name, x.node(DefuncMl.K_FUN, name, 0), DefuncMl.OK);
            check.due("let " + name, x.node(DefuncMl.K_LET, name, 0), DefuncMl.OK);
            check.due("var " + name, x.node(DefuncMl.K_VAR, name, 0), DefuncMl.OK);
            check.due("letrec " + name, x.node(DefuncMl.K_LETREC, name, other), DefuncMl.OK);
            check.due("nodeCount", x.nodeCount(), 4);
        }
    }

    private static void ignoredArgumentsNeverRefuse() {
        for (int odd : ODD) {
            for (int kind = DefuncMl.K_NUM; kind <= DefuncMl.K_APP; kind++) {
                boolean named = kind == DefuncMl.K_VAR || kind == DefuncMl.K_FUN
                    || kind == DefuncMl.K_LET || kind == DefuncMl.K_LETREC;
                int a = named ? 3 : odd;
                int b = kind == DefuncMl.K_LETREC ? 4 : odd;
                DefuncMl x = new DefuncMl(5, 5);
                String what = "node(" + kind + ", " + a + ", " + b + ")";
                check.due(what, x.node(kind, a, b), DefuncMl.OK);
                check.due(what + ": nodeCount", x.nodeCount(), 1);
            }
            ignoredArgumentsPlayNoPart(odd);
        }
    }

    private static void ignoredArgumentsPlayNoPart(int odd) {
        DefuncMl x = new DefuncMl(64, 8);
        int[] term = Term.let(0, Term.fun(1, Term.add(Term.var(1), Term.num(2))),
            Term.fst(Term.pair(Term.app(Term.var(0), Term.num(40)), Term.num(0))));
        for (int i = 0; i < term.length; i += 3) {
            int kind = term[i];
            boolean uses = kind <= DefuncMl.K_VAR || kind == DefuncMl.K_FUN
                || kind == DefuncMl.K_LET;
            x.node(kind, uses ? term[i + 1] : odd, odd);
        }
        String what = "ignored arguments " + odd;
        check.due(what + ": compile", x.compile(), DefuncMl.OK);
        check.due(what + ": freeVars", x.freeVars(0), 0);
        check.runs(what, x, DefuncMl.OK, 4, 1);
        check.result(what, x, 0, 0, DefuncMl.KIND_INT, 42);
    }

    private static void constantsMayBeAnyInt() {
        for (int value : new int[] {Integer.MIN_VALUE, -9, -1, 0, 1, 8, Integer.MAX_VALUE}) {
            DefuncMl x = Term.compiled(1, 1, Term.num(value));
            check.runs("constant " + value, x, DefuncMl.OK, 0, 0);
            check.result("constant " + value, x, 0, 0, DefuncMl.KIND_INT, value);
        }
    }

    private static void fullAndCompleteAreToldApart() {
        DefuncMl x = new DefuncMl(5, 5);
        for (int i = 0; i < 31; i++) {
            check.due("chain node " + i, x.node(DefuncMl.K_FST, 0, 0), DefuncMl.OK);
        }
        check.due("chain of 31: isComplete", x.isComplete(), false);
        check.due("chain node 31", x.node(DefuncMl.K_NUM, 0, 0), DefuncMl.OK);
        check.due("chain of 32: isComplete", x.isComplete(), true);
        check.due("chain of 32: nodeCount", x.nodeCount(), 32);
        check.due("chain of 32: node", x.node(DefuncMl.K_NUM, 0, 0), DefuncMl.ERR_COMPLETE);
        check.due("chain of 32: bad node", x.node(0, 99, 99), DefuncMl.ERR_COMPLETE);

        DefuncMl y = new DefuncMl(5, 5);
        for (int i = 0; i < 32; i++) {
            check.due("wide node " + i, y.node(DefuncMl.K_IF, 0, 0), DefuncMl.OK);
        }
        check.due("wide: nodeCount", y.nodeCount(), 32);
        for (int kind = DefuncMl.K_NUM; kind <= DefuncMl.K_APP; kind++) {
            check.due("wide: node", y.node(kind, 0, 0), DefuncMl.ERR_FULL);
        }
        check.due("wide: bad kind", y.node(0, 0, 0), DefuncMl.ERR_FULL);
        check.due("wide: bad name", y.node(DefuncMl.K_VAR, 8, 0), DefuncMl.ERR_FULL);
        check.due("wide: nodeCount", y.nodeCount(), 32);
        check.due("wide: isComplete", y.isComplete(), false);
        check.due("wide: compile", y.compile(), DefuncMl.ERR_INCOMPLETE);
        y.reset();
        check.due("wide: node after reset", y.node(DefuncMl.K_NUM, 0, 0), DefuncMl.OK);
    }

    private static void refusalsComeInOrder() {
        DefuncMl x = Term.fed(5, 5, Term.num(1));
        check.due("complete, bad kind", x.node(17, 0, 0), DefuncMl.ERR_COMPLETE);
        check.due("complete, bad name", x.node(DefuncMl.K_VAR, 8, 0), DefuncMl.ERR_COMPLETE);
        check.due("compile", x.compile(), DefuncMl.OK);
        check.due("compiled", x.node(DefuncMl.K_NUM, 0, 0), DefuncMl.ERR_COMPLETE);
        check.due("compiled, bad kind", x.node(-3, 0, 0), DefuncMl.ERR_COMPLETE);
    }

    private static void nodeLeavesTheRunAlone() {
        DefuncMl x = Term.compiled(9, 9,
            Term.pair(Term.app(Term.fun(0, Term.var(0)), Term.num(6)), Term.num(7)));
        check.runs("before nodes", x, DefuncMl.OK, 3, 1);
        x.node(DefuncMl.K_NUM, 1, 1);
        x.node(0, 1, 1);
        check.due("after nodes: isCompiled", x.isCompiled(), true);
        check.due("after nodes: lambdaCount", x.lambdaCount(), 1);
        check.due("after nodes: lastOutcome", x.lastOutcome(), DefuncMl.OK);
        check.due("after nodes: unitsUsed", x.unitsUsed(), 3);
        check.due("after nodes: peakDepth", x.peakDepth(), 1);
        check.result("after nodes", x, 1, 0, DefuncMl.KIND_INT, 6);
        check.result("after nodes", x, 1, 1, DefuncMl.KIND_INT, 7);
    }
}
