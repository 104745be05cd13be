import java.util.Set;
import java.util.regex.Matcher;
import java.util.regex.Pattern;

/** The section "What it is". */
final class OverviewBoundaries {
    private static final String IN = "What it is";

    private static final String NODE_KINDS = "Node kinds: K_NUM = 1, K_VAR = 2, K_ADD = 3, "
        + "K_SUB = 4, K_MUL = 5, K_DIV = 6, K_LT = 7, K_EQ = 8, K_IF = 9, K_PAIR = 10, K_FST = 11, "
        + "K_SND = 12, K_FUN = 13, K_LET = 14, K_LETREC = 15, K_APP = 16.";

    private static final String OUTCOME_CODES = "Outcome codes: OK = 0, ERR_COMPLETE = 1, "
        + "ERR_FULL = 2, ERR_KIND = 3, ERR_NAME = 4, ERR_INCOMPLETE = 5, ERR_SCOPE = 6, "
        + "ERR_NOT_COMPILED = 7, ERR_NOT_INT = 8, ERR_NOT_FUN = 9, ERR_NOT_PAIR = 10, "
        + "ERR_DIV = 11, ERR_BUDGET = 12, ERR_DEPTH = 13, NO_RESULT = 14.";

    private static final String VALUE_KINDS =
        "Value kinds: KIND_NONE = 0, KIND_INT = 1, KIND_PAIR = 2, KIND_FUN = 3.";

    private static final int[] ZERO = Term.num(0);
    private static final int[] BAD_DIV = Term.div(Term.num(1), ZERO);
    private static final int[] BAD_PART = Term.fst(ZERO);

    private OverviewBoundaries() {
    }

    @Says(in = IN,
        sentence = "DefuncMl holds one program of a small call-by-value ML-like language.")
    static void oneProgramByValue(Check check) {
        DefuncMl x = Term.compiled(64, 8, Term.num(6));
        check.due("a second program", x.node(DefuncMl.K_NUM, 7, 0), DefuncMl.ERR_COMPLETE);
        check.due("run", x.run(), DefuncMl.OK);
        check.result("the first program", x, 0, 0, DefuncMl.KIND_INT, 6);
        DefuncMl y = Term.compiled(64, 8, Term.num(7));
        check.due("run another object", y.run(), DefuncMl.OK);
        check.result("the first program still", x, 0, 0, DefuncMl.KIND_INT, 6);
        check.ends("an argument that the body does not use",
            Term.app(Term.fun(0, ZERO), BAD_DIV), 64, 8, DefuncMl.ERR_DIV, 1, 0);
        check.ends("an e1 that e2 does not use", Term.let(0, BAD_DIV, ZERO), 64, 8,
            DefuncMl.ERR_DIV, 0, 0);
        int[] twice = Term.fun(0, Term.add(Term.fst(Term.var(0)), Term.snd(Term.var(0))));
        check.ends("an argument used twice is evaluated once",
            Term.app(twice, Term.pair(ZERO, ZERO)), 64, 8, DefuncMl.OK, 3, 1);
    }

    @Says(in = IN, sentence = "The language has integer constants and variables, arithmetic with "
        + "division, comparison, if, pairs with first and second, anonymous functions, let, let "
        + "rec and application.")
    static void everyKindInOneProgram(Check check) {
        // let rec f x = if x < 8 then (x, 5) else f (x - 1) in
        // let p = f 9 in fst p + (snd p * 6) / ((fun y -> y == y) 4)
        int[] body = Term.iff(Term.lt(Term.var(1), Term.num(8)),
            Term.pair(Term.var(1), Term.num(5)),
            Term.app(Term.var(0), Term.sub(Term.var(1), Term.num(1))));
        int[] one = Term.app(Term.fun(3, Term.eq(Term.var(3), Term.var(3))), Term.num(4));
        int[] sum = Term.add(Term.fst(Term.var(2)),
            Term.div(Term.mul(Term.snd(Term.var(2)), Term.num(6)), one));
        int[] term = Term.letrec(0, 1, body,
            Term.let(2, Term.app(Term.var(0), Term.num(9)), sum));
        boolean[] used = new boolean[DefuncMl.K_APP + 1];
        for (int i = 0; i < term.length; i += 3) {
            used[term[i]] = true;
        }
        for (int kind = DefuncMl.K_NUM; kind <= DefuncMl.K_APP; kind++) {
            check.due("kind " + kind + " is used", used[kind], true);
        }
        DefuncMl x = check.ends("every kind", term, 64, 8, DefuncMl.OK, 8, 3);
        check.result("every kind", x, 0, 0, DefuncMl.KIND_INT, 37);
    }

    @Says(in = IN, sentence = "The program is given as a tree, one node per call, in prefix order.")
    static void oneNodePerCall(Check check) {
        int[] term = Term.sub(Term.div(Term.num(40), Term.num(4)), Term.num(3));
        DefuncMl x = new DefuncMl(64, 8);
        for (int i = 0; i < term.length; i += 3) {
            check.due("nodes before call " + i / 3, x.nodeCount(), i / 3);
            check.due("call " + i / 3, x.node(term[i], term[i + 1], term[i + 2]), DefuncMl.OK);
        }
        check.due("complete", x.isComplete(), true);
        check.gives("40 / 4 - 3", term, 7);
    }

    @Says(in = IN, sentence = "Once the tree is complete it can be compiled.")
    static void compiledOnceComplete(Check check) {
        int[] term = Term.chain(32);
        DefuncMl x = new DefuncMl(64, 8);
        for (int i = 0; i < 32; i++) {
            check.due("compile with " + i + " nodes", x.compile(), DefuncMl.ERR_INCOMPLETE);
            x.node(term[3 * i], term[3 * i + 1], term[3 * i + 2]);
        }
        check.due("compile with 32 nodes", x.compile(), DefuncMl.OK);
    }

    @Says(in = IN, sentence = "Compiling confirms that every variable is in scope and fixes a tag "
        + "and a set of free variables for every lambda.")
    static void whatCompilingDoes(Check check) {
        int[] inner = Term.fun(2, Term.add(Term.var(2), Term.var(5)));
        DefuncMl x = Term.fed(64, 8, Term.let(5, ZERO, Term.letrec(0, 1, inner, inner)));
        check.notCompiled("before", x);
        check.due("compile", x.compile(), DefuncMl.OK);
        int[] nodes = {2, 3, 7};
        check.due("lambdaCount", x.lambdaCount(), nodes.length);
        for (int tag = 0; tag < nodes.length; tag++) {
            check.due("lambdaNode(" + tag + ")", x.lambdaNode(tag), nodes[tag]);
            check.due("freeVars(" + tag + ")", x.freeVars(tag), 1 << 5);
        }
        DefuncMl y = Term.fed(64, 8, Term.let(4, ZERO, Term.letrec(0, 1, inner, inner)));
        check.due("compile with names out of scope", y.compile(), DefuncMl.ERR_SCOPE);
        check.notCompiled("refused", y);
    }

    @Says(in = IN, sentence = "A compiled program can then be run.")
    static void runOnceCompiled(Check check) {
        DefuncMl x = Term.fed(64, 8, Term.num(6));
        check.due("run before compile", x.run(), DefuncMl.ERR_NOT_COMPILED);
        check.due("compile", x.compile(), DefuncMl.OK);
        check.due("run", x.run(), DefuncMl.OK);
    }

    @Says(in = IN, sentence = "Evaluation is strictly left to right.")
    static void leftToRight(Check check) {
        int[] kinds = {DefuncMl.K_ADD, DefuncMl.K_SUB, DefuncMl.K_MUL, DefuncMl.K_DIV,
            DefuncMl.K_LT, DefuncMl.K_EQ, DefuncMl.K_PAIR, DefuncMl.K_LET, DefuncMl.K_APP};
        for (int kind : kinds) {
            check.ends("kind " + kind + ", left divides", Term.op(kind, BAD_DIV, BAD_PART), 64, 8,
                DefuncMl.ERR_DIV, 0, 0);
            check.ends("kind " + kind + ", left takes a part", Term.op(kind, BAD_PART, BAD_DIV),
                64, 8, DefuncMl.ERR_NOT_PAIR, 0, 0);
        }
        check.ends("cond divides", Term.iff(BAD_DIV, BAD_PART, BAD_PART), 64, 8,
            DefuncMl.ERR_DIV, 0, 0);
        check.ends("the function's application first", Term.app(Term.app(Term.fun(0, BAD_DIV),
            ZERO), BAD_PART), 64, 8, DefuncMl.ERR_DIV, 2, 1);
    }

    @Says(in = IN, sentence = "Each evaluation of a K_FUN, K_PAIR, K_LET or K_LETREC "
        + "node, and each application, spends exactly one unit of a clamped budget (a K_LETREC "
        + "spends one unit in all, which covers its closure).")
    static void oneUnitEach(Check check) {
        spends(check, "K_FUN", Term.fun(0, ZERO), 1);
        spends(check, "K_PAIR", Term.pair(ZERO, ZERO), 1);
        spends(check, "K_LET", Term.let(0, ZERO, ZERO), 1);
        spends(check, "K_LETREC", Term.letrec(0, 1, ZERO, ZERO), 1);
        spends(check, "K_LETREC and its closure", Term.letrec(0, 1, ZERO, Term.var(0)), 1);
        spends(check, "K_FUN and application", Term.app(Term.fun(0, ZERO), ZERO), 2);
        spends(check, "K_NUM", ZERO, 0);
        spends(check, "K_IF", Term.iff(ZERO, ZERO, ZERO), 0);
        spends(check, "K_EQ", Term.eq(ZERO, ZERO), 0);
        spends(check, "K_PAIR and K_FST", Term.fst(Term.pair(ZERO, ZERO)), 1);
        spends(check, "K_LET and K_VAR", Term.let(0, ZERO, Term.var(0)), 1);
    }

    private static void spends(Check check, String what, int[] term, int units) {
        DefuncMl x = Term.compiled(64, 8, term);
        check.due(what + ": run", x.run(), DefuncMl.OK);
        check.due(what + ": unitsUsed", x.unitsUsed(), units);
    }

    @Says(in = IN, sentence = "The nesting of active applications is limited by a "
        + "clamped depth, so every run ends.")
    static void everyRunEnds(Check check) {
        for (int depth : Edge.INTS) {
            DefuncMl x = Term.compiled(Edge.MAX, depth, Term.deepLoop());
            check.due("maxDepth " + depth + ": run", x.run(), DefuncMl.ERR_DEPTH);
            check.due("maxDepth " + depth + ": peak is in 1..8",
                x.peakDepth() >= 1 && x.peakDepth() <= 8, true);
        }
    }

    @Says(in = IN, sentence = "Only outcomes can be seen: an outcome code; the units used; the "
        + "peak application depth; the value, which is an integer, a nested pair (walked by a path of "
        + "bits), or a closure reported by the tag of the lambda that made it.")
    static void whatCanBeSeen(Check check) {
        DefuncMl x = check.ends("a value of each sort", States.valueOfEachSort(), 64, 8,
            DefuncMl.OK, 6, 1);
        check.result("a nested pair", x, 1, 0, DefuncMl.KIND_PAIR, 0);
        check.result("an integer", x, 2, 0, DefuncMl.KIND_INT, 7);
        check.result("a closure", x, 2, 2, DefuncMl.KIND_FUN, 1);
        check.result("an integer beside", x, 1, 1, DefuncMl.KIND_INT, 9);
        check.ends("an error", Term.pair(States.valueOfEachSort(), BAD_DIV), 64, 8,
            DefuncMl.ERR_DIV, 6, 1);
    }

    @Says(in = IN, sentence = "MAX_NODES = 32: the most nodes a program may have.")
    static void mostNodes(Check check) {
        check.due("MAX_NODES", DefuncMl.MAX_NODES, 32);
        DefuncMl x = new DefuncMl(64, 8);
        for (int i = 0; i < 32; i++) {
            check.due("node " + i, x.node(DefuncMl.K_SND, 0, 0), DefuncMl.OK);
        }
        check.due("node 32", x.node(DefuncMl.K_SND, 0, 0), DefuncMl.ERR_FULL);
        check.due("nodeCount", x.nodeCount(), 32);
    }

    @Says(in = IN, sentence = NODE_KINDS)
    static void nodeKinds(Check check) throws IllegalAccessException {
        constants(check, NODE_KINDS, 16);
    }

    @Says(in = IN, sentence = OUTCOME_CODES)
    static void outcomeCodes(Check check) throws IllegalAccessException {
        constants(check, OUTCOME_CODES, 15);
    }

    @Says(in = IN, sentence = VALUE_KINDS)
    static void valueKinds(Check check) throws IllegalAccessException {
        constants(check, VALUE_KINDS, 4);
    }

    private static void constants(Check check, String sentence, int many)
        throws IllegalAccessException {
        Set<String> constants = FaceTest.publicConstants();
        Matcher named = Pattern.compile("\\w+ = \\d+").matcher(sentence);
        int count = 0;
        while (named.find()) {
            count++;
            check.due(named.group(), constants.contains(named.group()), true);
        }
        check.due("constants in the sentence", count, many);
    }
}
