import java.util.Map;
import java.util.function.Supplier;

/** Promises 3, 4 and 5. */
final class NodeBoundaries {
    private static final String NODE = "Promise 3";
    private static final String COUNT = "Promise 4";
    private static final String COMPLETE = "Promise 5";

    private static final int[] OUTSIDE_NAMES =
        {Edge.MIN, -65536, -256, -8, -1, 8, 9, 16, 32, 256, 65536, Edge.MAX};
    private static final int[] OUTSIDE_KINDS =
        {Edge.MIN, -65536, -256, -17, -16, -1, 0, 17, 18, 32, 257, 65537, Edge.MAX};

    private NodeBoundaries() {
    }

    private static boolean namesA(int kind) {
        return kind == DefuncMl.K_VAR || kind == DefuncMl.K_FUN || kind == DefuncMl.K_LET
            || kind == DefuncMl.K_LETREC;
    }

    @Says(in = NODE, sentence = "node(kind, a, b) appends one node or refuses.")
    static void appendsOrRefuses(Check check) {
        DefuncMl x = new DefuncMl(64, 8);
        for (int kind : Edge.INTS) {
            for (int a : Edge.INTS) {
                if (x.isComplete()) {
                    x.reset();
                }
                int before = x.nodeCount();
                int answer = x.node(kind, a, a);
                boolean known = answer >= DefuncMl.OK && answer <= DefuncMl.ERR_NAME;
                check.due("node(" + kind + ", " + a + ", " + a + ") knows the answer", known, true);
                check.due("node(" + kind + ", " + a + ", " + a + ") appends", x.nodeCount(),
                    answer == DefuncMl.OK ? before + 1 : before);
            }
        }
    }

    @Says(in = NODE, sentence = "The tests run in this order, and the first that applies gives "
        + "the answer:")
    static void orderOfTheTests(Check check) {
        DefuncMl whole = Term.fed(64, 8, Term.chain(32));
        check.due("complete, full, bad kind, bad name", whole.node(17, 8, 8),
            DefuncMl.ERR_COMPLETE);
        check.due("complete, full, bad name", whole.node(DefuncMl.K_VAR, 8, 8),
            DefuncMl.ERR_COMPLETE);
        check.due("complete, full", whole.node(DefuncMl.K_NUM, 0, 0), DefuncMl.ERR_COMPLETE);
        DefuncMl small = Term.fed(64, 8, Term.num(0));
        check.due("complete, bad kind, bad name", small.node(0, -1, -1), DefuncMl.ERR_COMPLETE);
        check.due("complete, bad name", small.node(DefuncMl.K_FUN, -1, 0), DefuncMl.ERR_COMPLETE);
        DefuncMl full = States.row(32, DefuncMl.K_ADD);
        check.due("full, bad kind, bad name", full.node(17, 8, 8), DefuncMl.ERR_FULL);
        check.due("full, bad kind", full.node(0, 0, 0), DefuncMl.ERR_FULL);
        check.due("full, bad name", full.node(DefuncMl.K_LETREC, 0, 8), DefuncMl.ERR_FULL);
        DefuncMl open = new DefuncMl(64, 8);
        check.due("bad kind, bad name", open.node(17, 8, 8), DefuncMl.ERR_KIND);
        check.due("bad kind below, bad name", open.node(0, -1, -1), DefuncMl.ERR_KIND);
        check.due("bad name", open.node(DefuncMl.K_LETREC, 8, 8), DefuncMl.ERR_NAME);
    }

    @Says(in = NODE,
        sentence = "The tree is already complete (also true once compiled): ERR_COMPLETE.")
    static void afterTheLastPlace(Check check) {
        int[][] terms = {Term.num(1), Term.chain(2), Term.chain(31), Term.chain(32),
            Term.deepLoop()};
        for (int[] term : terms) {
            DefuncMl x = Term.fed(64, 8, term);
            completeFor("complete", check, x);
            x.compile();
            completeFor("compiled", check, x);
            x.run();
            completeFor("run", check, x);
        }
        DefuncMl y = Term.fed(64, 8, Term.var(0));
        y.compile();
        completeFor("refused for its scope", check, y);
    }

    private static void completeFor(String what, Check check, DefuncMl x) {
        for (int kind = DefuncMl.K_NUM; kind <= DefuncMl.K_APP; kind++) {
            check.due(what + ": node(" + kind + ", 0, 0)", x.node(kind, 0, 0),
                DefuncMl.ERR_COMPLETE);
        }
    }

    @Says(in = NODE, sentence = "MAX_NODES nodes are present: ERR_FULL.")
    static void whenFull(Check check) {
        int[] openKinds = {DefuncMl.K_ADD, DefuncMl.K_IF, DefuncMl.K_FST, DefuncMl.K_FUN,
            DefuncMl.K_LET, DefuncMl.K_LETREC, DefuncMl.K_APP};
        for (int kind : openKinds) {
            DefuncMl x = States.row(31, kind);
            check.due("kind " + kind + ": the 32nd", x.node(kind, 0, 0), DefuncMl.OK);
            for (int more = DefuncMl.K_NUM; more <= DefuncMl.K_APP; more++) {
                check.due("kind " + kind + ": the 33rd", x.node(more, 0, 0), DefuncMl.ERR_FULL);
            }
        }
    }

    @Says(in = NODE, sentence = "kind is not in 1..16: ERR_KIND.")
    static void kindOutside(Check check) {
        DefuncMl x = new DefuncMl(64, 8);
        for (int kind : OUTSIDE_KINDS) {
            check.due("node(" + kind + ", 0, 0)", x.node(kind, 0, 0), DefuncMl.ERR_KIND);
            check.due("node(" + kind + ", 9, 9)", x.node(kind, 9, 9), DefuncMl.ERR_KIND);
        }
        for (int kind = 1; kind <= 16; kind++) {
            DefuncMl y = new DefuncMl(64, 8);
            check.due("node(" + kind + ", 0, 0)", y.node(kind, 0, 0), DefuncMl.OK);
        }
    }

    @Says(in = NODE, sentence = "Either kind is K_VAR, K_FUN, K_LET or K_LETREC and a is not in "
        + "0..7, or kind is K_LETREC and b is not in 0..7: ERR_NAME.")
    static void nameOutside(Check check) {
        DefuncMl x = new DefuncMl(64, 8);
        for (int name : OUTSIDE_NAMES) {
            for (int kind = DefuncMl.K_NUM; kind <= DefuncMl.K_APP; kind++) {
                if (namesA(kind)) {
                    check.due("node(" + kind + ", " + name + ", 0)", x.node(kind, name, 0),
                        DefuncMl.ERR_NAME);
                }
            }
            check.due("letrec 0 " + name, x.node(DefuncMl.K_LETREC, 0, name), DefuncMl.ERR_NAME);
            check.due("letrec both", x.node(DefuncMl.K_LETREC, name, name), DefuncMl.ERR_NAME);
        }
        for (int name = 0; name <= 7; name++) {
            for (int kind = DefuncMl.K_NUM; kind <= DefuncMl.K_APP; kind++) {
                DefuncMl y = new DefuncMl(64, 8);
                check.due("node(" + kind + ", " + name + ", " + (7 - name) + ")",
                    y.node(kind, name, 7 - name), DefuncMl.OK);
            }
        }
    }

    @Says(in = NODE, sentence = "A refused call changes nothing at all.")
    static void refusalsLeaveNoTrace(Check check) {
        check.noTrace(States.all(), x -> {
            x.node(0, 0, 0);
            x.node(17, 8, 8);
            x.node(DefuncMl.K_VAR, 8, 0);
            x.node(DefuncMl.K_FUN, -1, 0);
            x.node(DefuncMl.K_LET, 8, 0);
            x.node(DefuncMl.K_LETREC, 0, 8);
            x.node(DefuncMl.K_LETREC, -1, 0);
        });
        check.noTrace(States.withoutRoom(), x -> {
            for (int kind = DefuncMl.K_NUM; kind <= DefuncMl.K_APP; kind++) {
                x.node(kind, 3, 3);
            }
        });
        int[] term = States.valueOfEachSort();
        check.alike("refused between nodes", Questions.all(), () -> {
            DefuncMl x = new DefuncMl(64, 8);
            for (int i = 0; i < term.length; i += 3) {
                x.node(99, 1, 1);
                x.node(DefuncMl.K_VAR, 99, 1);
                x.node(term[i], term[i + 1], term[i + 2]);
                x.node(DefuncMl.K_LETREC, 1, 99);
            }
            return x;
        }, () -> Term.fed(64, 8, term));
    }

    @Says(in = NODE, sentence = "Otherwise the node is appended and OK is answered.")
    static void appended(Check check) {
        for (int kind = DefuncMl.K_NUM; kind <= DefuncMl.K_APP; kind++) {
            DefuncMl x = States.row(31, DefuncMl.K_SND);
            check.due("first of kind " + kind, new DefuncMl(64, 8).node(kind, 7, 7), DefuncMl.OK);
            check.due("last of kind " + kind, x.node(kind, 7, 7), DefuncMl.OK);
            check.due("last of kind " + kind + ": nodeCount", x.nodeCount(), 32);
        }
    }

    @Says(in = NODE, sentence = "The new node's index is the old nodeCount(), which then grows by "
        + "one.")
    static void indexIsOldCount(Check check) {
        DefuncMl x = new DefuncMl(64, 8);
        for (int i = 0; i < 31; i++) {
            check.due("nodeCount before", x.nodeCount(), i);
            x.node(DefuncMl.K_VAR, 8, 0);
            x.node(DefuncMl.K_FUN, 0, 0);
            check.due("nodeCount after", x.nodeCount(), i + 1);
        }
        x.node(DefuncMl.K_VAR, 0, 0);
        check.due("compile", x.compile(), DefuncMl.OK);
        for (int i = 0; i < 31; i++) {
            check.due("lambdaNode(" + i + ")", x.lambdaNode(i), i);
        }
    }

    @Says(in = NODE, sentence = "The node fills one open place and opens one per child, which may "
        + "make the tree complete.")
    static void fillsAndOpens(Check check) {
        int[] children = {0, 0, 2, 2, 2, 2, 2, 2, 3, 2, 1, 1, 1, 2, 2, 2};
        for (int kind = DefuncMl.K_NUM; kind <= DefuncMl.K_APP; kind++) {
            DefuncMl x = new DefuncMl(64, 8);
            x.node(kind, 0, 0);
            for (int child = 0; child < children[kind - 1]; child++) {
                check.due("kind " + kind + " with " + child, x.isComplete(), false);
                x.node(DefuncMl.K_NUM, 0, 0);
            }
            check.due("kind " + kind + " with all", x.isComplete(), true);
        }
        // The 32nd node may still make the tree complete: 10 ifs, 1 fst and 21 leaves.
        DefuncMl y = States.row(10, DefuncMl.K_IF);
        y.node(DefuncMl.K_FST, 0, 0);
        for (int leaf = 0; leaf < 21; leaf++) {
            check.due("wide with " + y.nodeCount(), y.isComplete(), false);
            check.due("wide leaf", y.node(DefuncMl.K_NUM, 0, 0), DefuncMl.OK);
        }
        check.due("wide: nodeCount", y.nodeCount(), 32);
        check.due("wide: isComplete", y.isComplete(), true);
    }

    @Says(in = NODE, sentence = "For K_NUM, a is the constant and may be any int.")
    static void anyConstant(Check check) {
        for (int value : Edge.INTS) {
            DefuncMl x = new DefuncMl(64, 8);
            check.due("constant " + value, x.node(DefuncMl.K_NUM, value, 0), DefuncMl.OK);
            x.compile();
            x.run();
            check.result("constant " + value, x, 0, 0, DefuncMl.KIND_INT, value);
        }
    }

    @Says(in = NODE, sentence = "Arguments the table marks as ignored never cause a refusal, "
        + "whatever their values.")
    static void ignoredNeverRefused(Check check) {
        for (int a : Edge.INTS) {
            for (int b : Edge.INTS) {
                for (int kind = DefuncMl.K_NUM; kind <= DefuncMl.K_APP; kind++) {
                    if (kind != DefuncMl.K_LETREC) {
                        DefuncMl x = new DefuncMl(64, 8);
                        int given = namesA(kind) ? 3 : a;
                        check.due("node(" + kind + ", " + given + ", " + b + ")",
                            x.node(kind, given, b), DefuncMl.OK);
                    }
                }
            }
        }
    }

    @Says(in = NODE, sentence = "This covers a for the operator, K_IF, K_PAIR, K_FST, K_SND and "
        + "K_APP kinds, and b for every kind but K_LETREC.")
    static void whatIsIgnored(Check check) {
        for (int odd : OUTSIDE_NAMES) {
            for (int kind = DefuncMl.K_NUM; kind <= DefuncMl.K_APP; kind++) {
                int withA = namesA(kind) ? DefuncMl.ERR_NAME : DefuncMl.OK;
                int withB = kind == DefuncMl.K_LETREC ? DefuncMl.ERR_NAME : DefuncMl.OK;
                check.due("kind " + kind + ", a " + odd,
                    new DefuncMl(64, 8).node(kind, odd, 0), withA);
                check.due("kind " + kind + ", b " + odd,
                    new DefuncMl(64, 8).node(kind, 0, odd), withB);
            }
        }
    }

    @Says(in = NODE,
        sentence = "With 32 nodes present and the tree complete the answer is ERR_COMPLETE;")
    static void fullAndComplete(Check check) {
        DefuncMl x = Term.fed(64, 8, Term.chain(32));
        check.due("nodeCount", x.nodeCount(), 32);
        for (int kind : Edge.INTS) {
            check.due("node(" + kind + ", 9, 9)", x.node(kind, 9, 9), DefuncMl.ERR_COMPLETE);
        }
    }

    @Says(in = NODE,
        sentence = "with 32 nodes present and the tree not complete it is ERR_FULL.")
    static void fullAndOpen(Check check) {
        DefuncMl x = States.row(32, DefuncMl.K_FUN);
        check.due("nodeCount", x.nodeCount(), 32);
        check.due("isComplete", x.isComplete(), false);
        for (int kind : Edge.INTS) {
            check.due("node(" + kind + ", 9, 9)", x.node(kind, 9, 9), DefuncMl.ERR_FULL);
        }
    }

    @Says(in = NODE, sentence = "A tree that cannot be closed within MAX_NODES nodes stays "
        + "incomplete until reset.")
    static void cannotBeClosed(Check check) {
        // 11 ifs open 23 places, and 21 nodes are left.
        DefuncMl x = States.row(11, DefuncMl.K_IF);
        for (int i = 11; i < 32; i++) {
            check.due("node " + i, x.node(DefuncMl.K_NUM, i, 0), DefuncMl.OK);
            check.due("isComplete", x.isComplete(), false);
        }
        for (int i = 0; i < 5; i++) {
            check.due("node when full", x.node(DefuncMl.K_NUM, i, 0), DefuncMl.ERR_FULL);
            check.due("isComplete when full", x.isComplete(), false);
            check.due("compile when full", x.compile(), DefuncMl.ERR_INCOMPLETE);
            check.due("run when full", x.run(), DefuncMl.ERR_NOT_COMPILED);
        }
        x.reset();
        check.due("after reset", Term.feed(x, Term.chain(32)), DefuncMl.OK);
        check.due("isComplete after reset", x.isComplete(), true);
    }

    @Says(in = NODE, sentence = "node never touches the compiled state, the outcome, the units, "
        + "the peak or the result.")
    static void nodeTouchesNothingElse(Check check) {
        for (int kind = 0; kind <= 17; kind++) {
            int given = kind;
            check.noTrace(Questions.ofCompiling(), States.all(), x -> x.node(given, 0, 0));
            check.noTrace(Questions.ofTheRun(), States.all(), x -> x.node(given, 0, 0));
            check.noTrace(Questions.ofTheRun(), States.all(), x -> x.node(given, 8, 8));
        }
    }

    @Says(in = COUNT, sentence = "nodeCount() answers the number of nodes appended since the start "
        + "or the last reset.")
    static void countsSinceReset(Check check) {
        DefuncMl x = new DefuncMl(64, 8);
        for (int round = 0; round < 3; round++) {
            for (int i = 0; i < 32; i++) {
                check.due("round " + round, x.nodeCount(), i);
                x.node(DefuncMl.K_PAIR, 0, 0);
            }
            check.due("round " + round, x.nodeCount(), 32);
            x.reset();
        }
        check.due("after the last reset", x.nodeCount(), 0);
        Term.feed(x, Term.num(1));
        check.due("one node", x.nodeCount(), 1);
        x.compile();
        check.due("one node, compiled", x.nodeCount(), 1);
        x.run();
        check.due("one node, run", x.nodeCount(), 1);
    }

    @Says(in = COUNT, sentence = "Refused calls are not counted.")
    static void refusalsNotCounted(Check check) {
        DefuncMl x = new DefuncMl(64, 8);
        x.node(0, 0, 0);
        check.due("after ERR_KIND", x.nodeCount(), 0);
        x.node(DefuncMl.K_VAR, 8, 0);
        check.due("after ERR_NAME", x.nodeCount(), 0);
        x.node(DefuncMl.K_NUM, 8, 0);
        x.node(DefuncMl.K_NUM, 8, 0);
        check.due("after ERR_COMPLETE", x.nodeCount(), 1);
        DefuncMl y = States.row(40, DefuncMl.K_ADD);
        check.due("after ERR_FULL", y.nodeCount(), 32);
    }

    @Says(in = COUNT, sentence = "The answer is always in 0..MAX_NODES.")
    static void countInRange(Check check) {
        check.due("new", new DefuncMl(64, 8).nodeCount(), 0);
        for (int kind = DefuncMl.K_NUM; kind <= DefuncMl.K_APP; kind++) {
            DefuncMl x = States.row(1000, kind);
            boolean leaf = kind <= DefuncMl.K_VAR;
            check.due("1000 of kind " + kind, x.nodeCount(), leaf ? 1 : 32);
        }
    }

    @Says(in = COUNT, sentence = "Nothing changes.")
    static void countLeavesNoTrace(Check check) {
        check.noTrace(States.all(), x -> {
            for (int i = 0; i < 50; i++) {
                x.nodeCount();
            }
        });
    }

    @Says(in = COMPLETE, sentence = "isComplete() is true iff at least one node was given and the "
        + "tree is complete, that is, no open place remains.")
    static void completeIffClosed(Check check) {
        int[][] terms =
            {Term.num(1), Term.chain(32), Term.treeLoop(2), Term.inPairs(15, Term.num(0))};
        for (int[] term : terms) {
            DefuncMl x = new DefuncMl(64, 8);
            for (int i = 0; i < term.length; i += 3) {
                check.due("before node " + i / 3, x.isComplete(), false);
                x.node(99, 0, 0);
                check.due("after a refusal", x.isComplete(), false);
                x.node(term[i], term[i + 1], term[i + 2]);
            }
            check.due("after the last node", x.isComplete(), true);
        }
    }

    @Says(in = COMPLETE, sentence = "With no nodes it is false.")
    static void emptyIsNotComplete(Check check) {
        DefuncMl x = new DefuncMl(64, 8);
        check.due("new", x.isComplete(), false);
        x.node(0, 0, 0);
        x.compile();
        x.run();
        check.due("after refusals", x.isComplete(), false);
        Term.feed(x, Term.num(1));
        x.reset();
        check.due("after reset", x.isComplete(), false);
    }

    @Says(in = COMPLETE, sentence = "Once true it stays true until reset.")
    static void staysComplete(Check check) {
        for (Map.Entry<String, Supplier<DefuncMl>> state : States.all().entrySet()) {
            DefuncMl x = state.getValue().get();
            if (x.isComplete()) {
                for (int kind = 0; kind <= 17; kind++) {
                    x.node(kind, 0, 0);
                    x.compile();
                    x.run();
                    check.due(state.getKey() + ": isComplete", x.isComplete(), true);
                }
                x.reset();
                check.due(state.getKey() + ": isComplete after reset", x.isComplete(), false);
            }
        }
    }

    @Says(in = COMPLETE, sentence = "Nothing changes.")
    static void completeLeavesNoTrace(Check check) {
        check.noTrace(States.all(), x -> {
            for (int i = 0; i < 50; i++) {
                x.isComplete();
            }
        });
    }
}
