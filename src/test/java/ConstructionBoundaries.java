import java.util.Map;
import java.util.function.Supplier;

/** Promises 1 and 2. */
final class ConstructionBoundaries {
    private static final String START = "Promise 1";
    private static final String RESET = "Promise 2";

    private ConstructionBoundaries() {
    }

    /** The object, which is empty, spends all that it has. */
    private static void hasBudget(Check check, String what, DefuncMl x, int want) {
        Term.feed(x, Term.wideLoop());
        check.due(what + ": compile", x.compile(), DefuncMl.OK);
        check.due(what + ": run", x.run(), DefuncMl.ERR_BUDGET);
        check.due(what + ": unitsUsed", x.unitsUsed(), want);
    }

    /** The object, which is empty, goes as deep as it may. */
    private static void hasDepth(Check check, String what, DefuncMl x, int want) {
        Term.feed(x, Term.deepLoop());
        check.due(what + ": compile", x.compile(), DefuncMl.OK);
        check.due(what + ": run", x.run(), DefuncMl.ERR_DEPTH);
        check.due(what + ": peakDepth", x.peakDepth(), want);
    }

    @Says(in = START, sentence = "new DefuncMl(budget, maxDepth) accepts any two ints.")
    static void anyTwoInts(Check check) {
        for (int budget : Edge.INTS) {
            for (int depth : Edge.INTS) {
                String what = "new DefuncMl(" + budget + ", " + depth + ")";
                DefuncMl x = new DefuncMl(budget, depth);
                Term.feed(x, Term.fun(0, Term.var(0)));
                check.due(what + ": compile", x.compile(), DefuncMl.OK);
                check.due(what + ": run", x.run(), DefuncMl.OK);
            }
        }
    }

    @Says(in = START, sentence = "budget is clamped into 1..64:")
    static void budgetIsClamped(Check check) {
        for (int budget : Edge.INTS) {
            int want = Math.max(1, Math.min(64, budget));
            hasBudget(check, "budget " + budget, new DefuncMl(budget, 8), want);
        }
    }

    @Says(in = START, sentence = "below 1 becomes 1,")
    static void budgetTooSmall(Check check) {
        for (int budget : new int[] {0, -1, -2, -63, -64, -65, Edge.MIN + 1, Edge.MIN}) {
            hasBudget(check, "budget " + budget, new DefuncMl(budget, 8), 1);
        }
    }

    @Says(in = START, sentence = "above 64 becomes 64,")
    static void budgetTooLarge(Check check) {
        for (int budget : new int[] {65, 66, 127, 128, 256, 257, 65537, Edge.MAX - 1, Edge.MAX}) {
            hasBudget(check, "budget " + budget, new DefuncMl(budget, 8), 64);
        }
    }

    @Says(in = START, sentence = "anything else is kept.")
    static void budgetKept(Check check) {
        for (int budget = 1; budget <= 64; budget++) {
            hasBudget(check, "budget " + budget, new DefuncMl(budget, 8), budget);
        }
    }

    @Says(in = START, sentence = "The result is B.")
    static void clampedBudgetIsB(Check check) {
        int[] oneUnit = Term.pair(Term.num(0), Term.num(0));
        int[] twoUnits = Term.pair(oneUnit, Term.num(0));
        check.ends("1 unit of budget 0", oneUnit, 0, 8, DefuncMl.OK, 1, 0);
        check.ends("2 units of budget 0", twoUnits, 0, 8, DefuncMl.ERR_BUDGET, 1, 0);
        check.ends("64 units of budget 65", Term.treeLoop(5), 65, 8, DefuncMl.OK, 64, 6);
        check.ends("65 units of budget 65", Term.pair(Term.treeLoop(5), Term.num(0)), 65, 8,
            DefuncMl.ERR_BUDGET, 64, 6);
    }

    @Says(in = START, sentence = "maxDepth is clamped into 1..8 the same way.")
    static void depthIsClamped(Check check) {
        for (int depth : new int[] {0, -1, -2, -7, -8, -9, Edge.MIN + 1, Edge.MIN}) {
            hasDepth(check, "maxDepth " + depth, new DefuncMl(64, depth), 1);
        }
        for (int depth = 1; depth <= 8; depth++) {
            hasDepth(check, "maxDepth " + depth, new DefuncMl(64, depth), depth);
        }
        for (int depth : new int[] {9, 10, 15, 16, 64, 256, 257, Edge.MAX - 1, Edge.MAX}) {
            hasDepth(check, "maxDepth " + depth, new DefuncMl(64, depth), 8);
        }
    }

    @Says(in = START, sentence = "The result is D.")
    static void clampedDepthIsD(Check check) {
        check.ends("1 active of maxDepth 0", Term.lineLoop(0), 64, 0, DefuncMl.OK, 2, 1);
        check.ends("2 active of maxDepth 0", Term.lineLoop(1), 64, 0, DefuncMl.ERR_DEPTH, 2, 1);
        check.ends("8 active of maxDepth 9", Term.lineLoop(7), 64, 9, DefuncMl.OK, 9, 8);
        check.ends("9 active of maxDepth 9", Term.lineLoop(8), 64, 9, DefuncMl.ERR_DEPTH, 9, 8);
    }

    @Says(in = START, sentence = "B and D are kept for the object's whole life.")
    static void limitsAreKept(Check check) {
        DefuncMl x = Term.compiled(7, 8, Term.wideLoop());
        DefuncMl y = Term.compiled(64, 3, Term.deepLoop());
        for (int i = 0; i < 100; i++) {
            check.runs("budget 7, run " + i, x, DefuncMl.ERR_BUDGET, 7, 6);
            check.runs("maxDepth 3, run " + i, y, DefuncMl.ERR_DEPTH, 4, 3);
            x.compile();
            y.node(DefuncMl.K_NUM, 64, 64);
        }
    }

    @Says(in = START, sentence = "Nothing changes them, reset included.")
    static void resetLeavesTheLimits(Check check) {
        for (int limit : Edge.INTS) {
            DefuncMl x = new DefuncMl(limit, 8);
            DefuncMl y = new DefuncMl(64, limit);
            for (int i = 0; i < 3; i++) {
                hasBudget(check, "budget " + limit + ", time " + i, x,
                    Math.max(1, Math.min(64, limit)));
                hasDepth(check, "maxDepth " + limit + ", time " + i, y,
                    Math.max(1, Math.min(8, limit)));
                x.reset();
                y.reset();
            }
        }
    }

    /** One look at new objects with ordinary and odd arguments. */
    private interface Look {
        void at(String what, DefuncMl x);
    }

    private static void newObjects(Look look) {
        for (int budget : Edge.INTS) {
            for (int depth : new int[] {Edge.MIN, 0, 1, 8, 9, Edge.MAX}) {
                look.at("new DefuncMl(" + budget + ", " + depth + ")",
                    new DefuncMl(budget, depth));
            }
        }
    }

    @Says(in = START, sentence = "no nodes: nodeCount() is 0 and isComplete() is false;")
    static void startsWithoutNodes(Check check) {
        newObjects((what, x) -> {
            check.due(what + ": nodeCount", x.nodeCount(), 0);
            check.due(what + ": isComplete", x.isComplete(), false);
        });
    }

    @Says(in = START, sentence = "not compiled: isCompiled() is false, lambdaCount() is 0, and "
        + "lambdaNode and freeVars answer -1 for every tag;")
    static void startsNotCompiled(Check check) {
        newObjects((what, x) -> {
            check.due(what + ": isCompiled", x.isCompiled(), false);
            check.due(what + ": lambdaCount", x.lambdaCount(), 0);
            for (int tag : Edge.INTS) {
                check.due(what + ": lambdaNode(" + tag + ")", x.lambdaNode(tag), -1);
                check.due(what + ": freeVars(" + tag + ")", x.freeVars(tag), -1);
            }
        });
    }

    @Says(in = START, sentence = "lastOutcome() is NO_RESULT;")
    static void startsWithoutOutcome(Check check) {
        newObjects((what, x) ->
            check.due(what + ": lastOutcome", x.lastOutcome(), DefuncMl.NO_RESULT));
    }

    @Says(in = START, sentence = "unitsUsed() and peakDepth() are 0;")
    static void startsWithoutUnits(Check check) {
        newObjects((what, x) -> {
            check.due(what + ": unitsUsed", x.unitsUsed(), 0);
            check.due(what + ": peakDepth", x.peakDepth(), 0);
        });
    }

    @Says(in = START, sentence = "no result: resultKind answers KIND_NONE and resultValue answers "
        + "0 for all arguments.")
    static void startsWithoutResult(Check check) {
        newObjects((what, x) -> {
            for (int steps : Edge.INTS) {
                check.result(what, x, steps, 0, DefuncMl.KIND_NONE, 0);
                check.result(what, x, steps, -1, DefuncMl.KIND_NONE, 0);
                check.result(what, x, 0, steps, DefuncMl.KIND_NONE, 0);
                check.result(what, x, 1, steps, DefuncMl.KIND_NONE, 0);
                check.result(what, x, 16, steps, DefuncMl.KIND_NONE, 0);
            }
        });
    }

    private static void afterReset(Look look) {
        for (Map.Entry<String, Supplier<DefuncMl>> state : States.all().entrySet()) {
            DefuncMl x = state.getValue().get();
            x.reset();
            look.at(state.getKey() + ", reset", x);
        }
    }

    @Says(in = RESET,
        sentence = "reset() brings the object back to the starting state of Promise 1.")
    static void backToTheStart(Check check) {
        for (Map.Entry<String, Supplier<DefuncMl>> state : States.all().entrySet()) {
            Supplier<DefuncMl> cleared = () -> {
                DefuncMl x = state.getValue().get();
                x.reset();
                return x;
            };
            check.alike(state.getKey(), Questions.all(), cleared, () -> new DefuncMl(64, 8));
            for (int[] term : new int[][] {States.valueOfEachSort(), Term.inPairs(15, Term.num(0)),
                Term.chain(32)}) {
                check.alike(state.getKey() + ", used again", Questions.all(), () -> {
                    DefuncMl x = cleared.get();
                    Term.feed(x, term);
                    return x;
                }, () -> Term.fed(64, 8, term));
            }
        }
    }

    @Says(in = RESET, sentence = "All nodes are removed")
    static void nodesAreRemoved(Check check) {
        afterReset((what, x) -> {
            check.due(what + ": nodeCount", x.nodeCount(), 0);
            check.due(what + ": isComplete", x.isComplete(), false);
            check.due(what + ": 32 nodes fit", Term.feed(x, Term.chain(32)), DefuncMl.OK);
            check.due(what + ": nodeCount", x.nodeCount(), 32);
        });
    }

    @Says(in = RESET, sentence = "and the program is no longer compiled.")
    static void noLongerCompiled(Check check) {
        afterReset((what, x) -> {
            check.notCompiled(what, x);
            check.due(what + ": compile", x.compile(), DefuncMl.ERR_INCOMPLETE);
            check.refusedRun(what, x);
        });
    }

    @Says(in = RESET, sentence = "lastOutcome() becomes NO_RESULT,")
    static void outcomeIsDropped(Check check) {
        afterReset((what, x) ->
            check.due(what + ": lastOutcome", x.lastOutcome(), DefuncMl.NO_RESULT));
    }

    @Says(in = RESET, sentence = "units used and peak become 0,")
    static void unitsAreDropped(Check check) {
        afterReset((what, x) -> {
            check.due(what + ": unitsUsed", x.unitsUsed(), 0);
            check.due(what + ": peakDepth", x.peakDepth(), 0);
        });
    }

    @Says(in = RESET, sentence = "and any kept result is dropped.")
    static void resultIsDropped(Check check) {
        afterReset((what, x) -> {
            check.noResult(what, x);
            Term.feed(x, Term.num(1));
            check.due(what + ": compile", x.compile(), DefuncMl.OK);
            check.noResult(what + " and compiled", x);
        });
    }

    @Says(in = RESET, sentence = "B and D are kept.")
    static void limitsOutliveReset(Check check) {
        for (int budget = 1; budget <= 64; budget += 9) {
            DefuncMl x = new DefuncMl(budget, 8);
            hasBudget(check, "budget " + budget, x, budget);
            x.reset();
            hasBudget(check, "budget " + budget + " after reset", x, budget);
        }
        for (int depth = 1; depth <= 8; depth++) {
            DefuncMl x = new DefuncMl(64, depth);
            hasDepth(check, "maxDepth " + depth, x, depth);
            x.reset();
            hasDepth(check, "maxDepth " + depth + " after reset", x, depth);
        }
    }

    @Says(in = RESET, sentence = "reset is allowed in every state;")
    static void resetInEveryState(Check check) {
        afterReset((what, x) -> {
            check.startingState(what, x);
            x.reset();
            check.startingState(what + " twice", x);
        });
    }

    @Says(in = RESET, sentence = "in the starting state it changes nothing.")
    static void resetOfTheStart(Check check) {
        for (int times = 1; times <= 5; times++) {
            int resets = times;
            check.alike("reset " + times + " times", Questions.all(), () -> {
                DefuncMl x = new DefuncMl(64, 8);
                for (int i = 0; i < resets; i++) {
                    x.reset();
                }
                return x;
            }, () -> new DefuncMl(64, 8));
        }
    }
}
