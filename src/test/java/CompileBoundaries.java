import java.util.Map;
import java.util.function.Supplier;

/** Promises 6 to 10. */
final class CompileBoundaries {
    private static final String COMPILE = "Promise 6";
    private static final String COMPILED = "Promise 7";
    private static final String COUNT = "Promise 8";
    private static final String NODE = "Promise 9";
    private static final String FREE = "Promise 10";

    private static final int[] ZERO = Term.num(0);

    private CompileBoundaries() {
    }

    @Says(in = COMPILE, sentence = "compile() runs these tests in order:")
    static void orderOfTheTests(Check check) {
        DefuncMl x = new DefuncMl(64, 8);
        x.node(DefuncMl.K_PAIR, 0, 0);
        x.node(DefuncMl.K_VAR, 5, 0);
        check.due("incomplete and out of scope", x.compile(), DefuncMl.ERR_INCOMPLETE);
        x.node(DefuncMl.K_NUM, 0, 0);
        check.due("out of scope", x.compile(), DefuncMl.ERR_SCOPE);
    }

    @Says(in = COMPILE, sentence = "Already compiled: the answer is OK and nothing changes.")
    static void compileAgain(Check check) {
        check.noTrace(States.compiled(), x -> {
            for (int i = 0; i < 3; i++) {
                check.due("compile", x.compile(), DefuncMl.OK);
            }
        });
    }

    @Says(in = COMPILE,
        sentence = "Not complete, including when no node was given: ERR_INCOMPLETE.")
    static void notComplete(Check check) {
        DefuncMl x = new DefuncMl(64, 8);
        check.due("no node", x.compile(), DefuncMl.ERR_INCOMPLETE);
        x.node(DefuncMl.K_VAR, 8, 0);
        check.due("only a refused node", x.compile(), DefuncMl.ERR_INCOMPLETE);
        for (int i = 0; i < 32; i++) {
            x.node(DefuncMl.K_FUN, 0, 0);
            check.due(i + 1 + " open nodes", x.compile(), DefuncMl.ERR_INCOMPLETE);
        }
        x.reset();
        check.due("no node after reset", x.compile(), DefuncMl.ERR_INCOMPLETE);
    }

    @Says(in = COMPILE, sentence = "Some K_VAR not in scope: ERR_SCOPE.")
    static void notInScope(Check check) {
        int[][] terms = {Term.var(0), Term.var(7), Term.fun(0, Term.var(7)),
            Term.let(0, Term.var(0), ZERO), Term.letrec(0, 1, ZERO, Term.var(1)),
            // Nowhere evaluated, and out of scope all the same.
            Term.iff(Term.num(1), ZERO, Term.var(3)), Term.letrec(0, 1, Term.var(2), ZERO),
            Term.fun(0, Term.fun(1, Term.fun(2, Term.var(3)))),
            // The last of 32 nodes, and the only one of many variables.
            lastOf32(Term.var(1)), Term.fun(0, Term.pair(Term.var(0), Term.pair(Term.var(0),
                Term.pair(Term.var(1), Term.var(0)))))};
        for (int[] term : terms) {
            DefuncMl x = Term.fed(64, 8, term);
            check.due("term of " + term.length / 3 + " nodes", x.compile(), DefuncMl.ERR_SCOPE);
            check.due("isCompiled", x.isCompiled(), false);
        }
        check.due("the last of 32 in scope", Term.fed(64, 8, lastOf32(Term.var(0))).compile(),
            DefuncMl.OK);
    }

    /** 31 functions of name 0 around the leaf. */
    private static int[] lastOf32(int[] leaf) {
        int[] whole = leaf;
        for (int i = 0; i < 31; i++) {
            whole = Term.fun(0, whole);
        }
        return whole;
    }

    @Says(in = COMPILE, sentence = "Refusals change nothing.")
    static void refusalsLeaveNoTrace(Check check) {
        check.noTrace(States.incomplete(), x -> {
            for (int i = 0; i < 3; i++) {
                check.due("compile", x.compile(), DefuncMl.ERR_INCOMPLETE);
            }
        });
        check.noTrace(States.outOfScope(), x -> {
            for (int i = 0; i < 3; i++) {
                check.due("compile", x.compile(), DefuncMl.ERR_SCOPE);
            }
        });
        int[] term = Term.treeLoop(2);
        check.alike("refused between nodes", Questions.all(), () -> {
            DefuncMl x = new DefuncMl(64, 8);
            for (int i = 0; i < term.length; i += 3) {
                x.compile();
                x.node(term[i], term[i + 1], term[i + 2]);
            }
            return x;
        }, () -> Term.fed(64, 8, term));
    }

    @Says(in = COMPILE, sentence = "The program stays, and only reset clears it.")
    static void programStays(Check check) {
        DefuncMl x = Term.fed(64, 8, Term.fun(0, Term.var(1)));
        x.compile();
        check.due("after ERR_SCOPE: nodeCount", x.nodeCount(), 2);
        check.due("after ERR_SCOPE: isComplete", x.isComplete(), true);
        DefuncMl y = new DefuncMl(64, 8);
        y.node(DefuncMl.K_FUN, 0, 0);
        y.compile();
        check.due("after ERR_INCOMPLETE: nodeCount", y.nodeCount(), 1);
        DefuncMl z = Term.compiled(64, 8, Term.chain(32));
        check.due("after OK: nodeCount", z.nodeCount(), 32);
        for (DefuncMl each : new DefuncMl[] {x, y, z}) {
            each.run();
            each.compile();
            check.due("still there", each.nodeCount() > 0, true);
            each.reset();
            check.due("cleared", each.nodeCount(), 0);
        }
    }

    @Says(in = COMPILE, sentence = "After ERR_INCOMPLETE, more nodes may still be appended.")
    static void moreAfterIncomplete(Check check) {
        int[] term = Term.chain(32);
        DefuncMl x = new DefuncMl(64, 8);
        for (int i = 0; i < term.length; i += 3) {
            check.due("compile", x.compile(), DefuncMl.ERR_INCOMPLETE);
            check.due("node", x.node(term[i], term[i + 1], term[i + 2]), DefuncMl.OK);
        }
        check.due("compile at last", x.compile(), DefuncMl.OK);
    }

    @Says(in = COMPILE, sentence = "After ERR_SCOPE the tree is complete, so the program can never "
        + "compile until reset.")
    static void neverAfterScope(Check check) {
        DefuncMl x = Term.fed(64, 8, Term.let(2, ZERO, Term.var(3)));
        for (int i = 0; i < 10; i++) {
            check.due("compile", x.compile(), DefuncMl.ERR_SCOPE);
            check.due("isComplete", x.isComplete(), true);
            check.due("node", x.node(DefuncMl.K_FUN, 3, 0), DefuncMl.ERR_COMPLETE);
            check.due("run", x.run(), DefuncMl.ERR_NOT_COMPILED);
        }
        x.reset();
        Term.feed(x, Term.let(3, ZERO, Term.var(3)));
        check.due("compile after reset", x.compile(), DefuncMl.OK);
    }

    @Says(in = COMPILE, sentence = "Otherwise the program becomes compiled, the lambda tags and "
        + "free variables are fixed, and OK is answered.")
    static void becomesCompiled(Check check) {
        DefuncMl x = Term.fed(64, 8, Term.fun(0, Term.fun(1, Term.var(0))));
        check.notCompiled("before", x);
        check.due("compile", x.compile(), DefuncMl.OK);
        for (int i = 0; i < 3; i++) {
            check.due("isCompiled", x.isCompiled(), true);
            check.due("lambdaCount", x.lambdaCount(), 2);
            check.due("lambdaNode(1)", x.lambdaNode(1), 1);
            check.due("freeVars(0)", x.freeVars(0), 0);
            check.due("freeVars(1)", x.freeVars(1), 1);
            x.run();
            x.node(DefuncMl.K_FUN, 2, 0);
        }
        // The program after a reset has its own, whatever the one before it had.
        x.reset();
        Term.feed(x, Term.let(4, ZERO, Term.fun(5, Term.var(4))));
        check.due("compile another", x.compile(), DefuncMl.OK);
        check.due("another: lambdaCount", x.lambdaCount(), 1);
        check.due("another: lambdaNode(0)", x.lambdaNode(0), 2);
        check.due("another: freeVars(0)", x.freeVars(0), 16);
        check.due("another: lambdaNode(1)", x.lambdaNode(1), -1);
    }

    @Says(in = COMPILE, sentence = "compile does not evaluate the program.")
    static void compileDoesNotEvaluate(Check check) {
        int[][] terms = {Term.num(5), Term.div(ZERO, ZERO), Term.deepLoop(), Term.wideLoop(),
            States.valueOfEachSort()};
        for (int[] term : terms) {
            DefuncMl x = Term.fed(64, 8, term);
            check.due("compile", x.compile(), DefuncMl.OK);
            check.notRun("compiled", x);
        }
    }

    @Says(in = COMPILE, sentence = "It does not change lastOutcome(), units used, peak or the "
        + "result.")
    static void compileLeavesTheRun(Check check) {
        check.noTrace(Questions.ofTheRun(), States.all(), DefuncMl::compile);
    }

    @Says(in = COMPILED, sentence = "isCompiled() is true iff compile has succeeded since the "
        + "start or the last reset.")
    static void compiledIffSucceeded(Check check) {
        DefuncMl x = new DefuncMl(64, 8);
        for (int round = 0; round < 3; round++) {
            check.due("empty", x.isCompiled(), false);
            x.compile();
            check.due("after ERR_INCOMPLETE", x.isCompiled(), false);
            Term.feed(x, Term.var(1));
            check.due("complete", x.isCompiled(), false);
            x.compile();
            check.due("after ERR_SCOPE", x.isCompiled(), false);
            x.reset();
            Term.feed(x, Term.div(ZERO, ZERO));
            check.due("complete again", x.isCompiled(), false);
            x.compile();
            check.due("after OK", x.isCompiled(), true);
            x.run();
            x.compile();
            x.node(0, 0, 0);
            check.due("after a run", x.isCompiled(), true);
            x.reset();
            check.due("after reset", x.isCompiled(), false);
        }
    }

    @Says(in = COMPILED, sentence = "Nothing changes.")
    static void compiledLeavesNoTrace(Check check) {
        check.noTrace(States.all(), x -> {
            for (int i = 0; i < 50; i++) {
                x.isCompiled();
            }
        });
    }

    @Says(in = COUNT, sentence = "If compiled, lambdaCount() answers the number of lambda nodes, "
        + "meaning K_FUN plus K_LETREC nodes.")
    static void countsLambdas(Check check) {
        for (int nodes = 1; nodes <= 32; nodes++) {
            DefuncMl x = Term.compiled(64, 8, Term.chain(nodes));
            check.due(nodes - 1 + " funs", x.lambdaCount(), nodes - 1);
        }
        int[] recs = ZERO;
        for (int i = 0; i < 15; i++) {
            recs = Term.letrec(0, 1, ZERO, recs);
        }
        check.due("15 letrecs", Term.compiled(64, 8, recs).lambdaCount(), 15);
        check.due("and a fun", Term.compiled(64, 8, Term.fun(0, recs)).lambdaCount(), 16);
    }

    @Says(in = COUNT, sentence = "This may be 0.")
    static void noLambdas(Check check) {
        int[][] terms = {ZERO, Term.let(0, ZERO, Term.var(0)), Term.app(ZERO, ZERO),
            Term.inPairs(15, ZERO)};
        for (int[] term : terms) {
            DefuncMl x = Term.compiled(64, 8, term);
            check.due("lambdaCount", x.lambdaCount(), 0);
            check.due("lambdaNode(0)", x.lambdaNode(0), -1);
            check.due("freeVars(0)", x.freeVars(0), -1);
        }
    }

    @Says(in = COUNT, sentence = "If not compiled, it answers 0.")
    static void noCountBeforeCompile(Check check) {
        for (Map.Entry<String, Supplier<DefuncMl>> state : States.notCompiled().entrySet()) {
            check.due(state.getKey(), state.getValue().get().lambdaCount(), 0);
        }
        DefuncMl x = Term.compiled(64, 8, Term.chain(32));
        check.due("compiled", x.lambdaCount(), 31);
        x.reset();
        check.due("reset", x.lambdaCount(), 0);
    }

    @Says(in = COUNT, sentence = "Nothing changes.")
    static void countLeavesNoTrace(Check check) {
        check.noTrace(States.all(), x -> {
            for (int i = 0; i < 50; i++) {
                x.lambdaCount();
            }
        });
    }

    @Says(in = NODE, sentence = "lambdaNode(tag) answers the 0-based index, in feeding order, of "
        + "the node with this tag.")
    static void indexOfTheTag(Check check) {
        check.due("root", Term.compiled(64, 8, Term.fun(0, ZERO)).lambdaNode(0), 0);
        DefuncMl x = Term.compiled(64, 8, Term.chain(32));
        for (int tag = 0; tag <= 30; tag++) {
            check.due("31 lambdas, tag " + tag, x.lambdaNode(tag), tag);
        }
        // The last lambda that a full tree can have is its 31st node.
        int[] late = Term.fun(0, ZERO);
        for (int i = 0; i < 15; i++) {
            late = Term.pair(ZERO, late);
        }
        DefuncMl y = Term.compiled(64, 8, late);
        check.due("after 15 pairs", y.lambdaNode(0), 30);
        DefuncMl z = Term.compiled(64, 8, Term.treeLoop(1));
        check.due("letrec", z.lambdaNode(0), 0);
    }

    /** With lambdas, but not compiled. */
    private static DefuncMl[] uncompiled() {
        DefuncMl open = new DefuncMl(64, 8);
        open.node(DefuncMl.K_FUN, 0, 0);
        DefuncMl whole = Term.fed(64, 8, Term.chain(32));
        DefuncMl scope = Term.fed(64, 8, Term.fun(0, Term.var(1)));
        scope.compile();
        DefuncMl cleared = Term.compiled(64, 8, Term.chain(32));
        cleared.reset();
        return new DefuncMl[] {new DefuncMl(64, 8), open, whole, scope, cleared};
    }

    @Says(in = NODE, sentence = "It answers -1 if not compiled, or if tag is not in "
        + "0..lambdaCount()-1;")
    static void noSuchTag(Check check) {
        for (DefuncMl x : uncompiled()) {
            for (int tag : Edge.INTS) {
                check.due("not compiled, tag " + tag, x.lambdaNode(tag), -1);
            }
        }
        for (int nodes = 1; nodes <= 32; nodes++) {
            DefuncMl x = Term.compiled(64, 8, Term.chain(nodes));
            int lambdas = nodes - 1;
            for (int tag : new int[] {lambdas, lambdas + 1, 31, 32, 33, 256, Edge.MAX}) {
                check.due("tag " + tag + " of " + lambdas, x.lambdaNode(tag), -1);
            }
            check.due("last tag of " + lambdas, x.lambdaNode(lambdas - 1), lambdas - 1);
        }
    }

    @Says(in = NODE, sentence = "negative tags are included in that case.")
    static void negativeTags(Check check) {
        DefuncMl x = Term.compiled(64, 8, Term.chain(32));
        for (int tag : Edge.INTS) {
            if (tag < 0) {
                check.due("tag " + tag, x.lambdaNode(tag), -1);
            }
        }
    }

    @Says(in = NODE, sentence = "Since tags follow feeding order, the indices grow with the tag.")
    static void indicesGrow(Check check) {
        int[] some = Term.letrec(0, 1, Term.fun(2, Term.fun(3, ZERO)), Term.fun(4, ZERO));
        int[][] terms = {Term.chain(32), some, Term.pair(some, some),
            Term.letrec(0, 1, some, Term.let(2, some, some))};
        for (int[] term : terms) {
            DefuncMl x = Term.compiled(64, 8, term);
            for (int tag = 1; tag < x.lambdaCount(); tag++) {
                check.due("tag " + tag, x.lambdaNode(tag) > x.lambdaNode(tag - 1), true);
            }
        }
    }

    @Says(in = NODE, sentence = "Nothing changes.")
    static void nodeLeavesNoTrace(Check check) {
        check.noTrace(States.all(), x -> {
            for (int tag : Edge.INTS) {
                x.lambdaNode(tag);
            }
        });
    }

    @Says(in = FREE, sentence = "freeVars(tag) answers the free variables of the lambda with this "
        + "tag as a mask: bit v (value 1 << v) is set iff name v is free.")
    static void maskOfFreeNames(Check check) {
        for (int name = 0; name <= 7; name++) {
            DefuncMl x = Term.compiled(64, 8, Term.let(name, ZERO, Term.fun(7 - name,
                Term.var(name))));
            check.due("name " + name, x.freeVars(0), 1 << name);
        }
        // One function in the other: each leaves free what those around it bind.
        int[] whole = sumOfAllNames();
        for (int name = 7; name >= 0; name--) {
            whole = Term.fun(name, whole);
        }
        DefuncMl y = Term.compiled(64, 8, whole);
        for (int tag = 0; tag <= 7; tag++) {
            check.due("tag " + tag, y.freeVars(tag), (1 << tag) - 1);
        }
    }

    private static int[] sumOfAllNames() {
        int[] sum = Term.var(0);
        for (int name = 1; name <= 7; name++) {
            sum = Term.add(sum, Term.var(name));
        }
        return sum;
    }

    @Says(in = FREE, sentence = "The answer is then in 0..255.")
    static void maskInRange(Check check) {
        check.due("no name", Term.compiled(64, 8, Term.fun(0, ZERO)).freeVars(0), 0);
        check.due("own name", Term.compiled(64, 8, Term.fun(7, Term.var(7))).freeVars(0), 0);
        for (int own = 0; own <= 7; own++) {
            // All names but its own: the most that a lambda can leave free.
            int[] whole = Term.fun(own, sumOfAllNames());
            for (int name = 0; name <= 7; name++) {
                whole = Term.fun(name, whole);
            }
            DefuncMl x = Term.compiled(64, 8, whole);
            check.due("all but " + own, x.freeVars(8), 255 - (1 << own));
        }
    }

    @Says(in = FREE,
        sentence = "It answers -1 if not compiled or if the tag is out of range.")
    static void noMask(Check check) {
        for (DefuncMl x : uncompiled()) {
            for (int tag : Edge.INTS) {
                check.due("not compiled, tag " + tag, x.freeVars(tag), -1);
            }
        }
        for (int nodes = 1; nodes <= 32; nodes++) {
            DefuncMl x = Term.compiled(64, 8, Term.chain(nodes));
            int lambdas = nodes - 1;
            for (int tag : Edge.INTS) {
                check.due("tag " + tag + " of " + lambdas, x.freeVars(tag),
                    tag >= 0 && tag < lambdas ? 0 : -1);
            }
            check.due("tag just past " + lambdas, x.freeVars(lambdas), -1);
        }
    }

    @Says(in = FREE, sentence = "Nothing changes.")
    static void freeLeavesNoTrace(Check check) {
        check.noTrace(States.all(), x -> {
            for (int tag : Edge.INTS) {
                x.freeVars(tag);
            }
        });
    }
}
