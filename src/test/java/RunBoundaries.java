import java.util.Map;
import java.util.function.Supplier;

/** Promises 11 to 14. */
final class RunBoundaries {
    private static final String RUN = "Promise 11";
    private static final String OUTCOME = "Promise 12";
    private static final String UNITS = "Promise 13";
    private static final String PEAK = "Promise 14";

    private static final int[] ZERO = Term.num(0);
    private static final int[] ONE = Term.num(1);
    private static final int[] PAIR = Term.pair(ZERO, ONE);
    private static final int[] FUN = Term.fun(0, Term.var(0));
    private static final int[] BAD_DIV = Term.div(ONE, ZERO);

    private RunBoundaries() {
    }

    /** let rec f x = if x then f (x - 1) else 1 / 0 in f n: the error arises n + 1 deep. */
    private static int[] errorBelow(int n) {
        int[] call = Term.app(Term.var(0), Term.sub(Term.var(1), ONE));
        return Term.letrec(0, 1, Term.iff(Term.var(1), call, BAD_DIV),
            Term.app(Term.var(0), Term.num(n)));
    }

    @Says(in = RUN, sentence = "If not compiled, run() answers ERR_NOT_COMPILED and nothing "
        + "changes.")
    static void refusedRun(Check check) {
        check.noTrace(States.notCompiled(), x -> {
            for (int i = 0; i < 3; i++) {
                check.due("run", x.run(), DefuncMl.ERR_NOT_COMPILED);
            }
        });
    }

    @Says(in = RUN, sentence = "The previous result is dropped, and units used, active and peak "
        + "are set to 0.")
    static void startsFromZero(Check check) {
        DefuncMl deep = Term.compiled(64, 8, errorBelow(7));
        DefuncMl whole = Term.compiled(64, 6, Term.treeLoop(5));
        DefuncMl budget = Term.compiled(3, 8, Term.lineLoop(7));
        DefuncMl depth = Term.compiled(64, 3, Term.lineLoop(7));
        for (int i = 0; i < 10; i++) {
            check.runs("an error with 8 active", deep, DefuncMl.ERR_DIV, 9, 8);
            check.noResult("an error with 8 active", deep);
            check.runs("all units", whole, DefuncMl.OK, 64, 6);
            check.runs("no unit left", budget, DefuncMl.ERR_BUDGET, 3, 2);
            check.runs("no depth left", depth, DefuncMl.ERR_DEPTH, 4, 3);
        }
        DefuncMl x = Term.compiled(64, 8, Term.lineLoop(7));
        x.run();
        x.reset();
        Term.feed(x, BAD_DIV);
        x.compile();
        check.runs("an error after a result", x, DefuncMl.ERR_DIV, 0, 0);
        check.noResult("an error after a result", x);
    }

    @Says(in = RUN,
        sentence = "The program is evaluated as described under Values and evaluation.")
    static void evaluatesTheProgram(Check check) {
        int[] less = Term.app(Term.var(0), Term.sub(Term.var(1), ONE));
        int[] factorial = Term.iff(Term.lt(Term.var(1), ONE), ONE, Term.mul(Term.var(1), less));
        DefuncMl x = check.ends("factorial of 7",
            Term.letrec(0, 1, factorial, Term.app(Term.var(0), Term.num(7))), 64, 8,
            DefuncMl.OK, 9, 8);
        check.result("factorial of 7", x, 0, 0, DefuncMl.KIND_INT, 5040);
        check.ends("factorial of 8 is too deep",
            Term.letrec(0, 1, factorial, Term.app(Term.var(0), Term.num(8))), 64, 8,
            DefuncMl.ERR_DEPTH, 9, 8);
    }

    @Says(in = RUN,
        sentence = "The answer is OK or the first error, and it becomes lastOutcome().")
    static void answerIsOutcome(Check check) {
        int[][] terms = {ZERO, Term.add(PAIR, ZERO), Term.app(ZERO, ZERO), Term.fst(ZERO), BAD_DIV,
            Term.wideLoop(), Term.deepLoop()};
        int[] wants = {DefuncMl.OK, DefuncMl.ERR_NOT_INT, DefuncMl.ERR_NOT_FUN,
            DefuncMl.ERR_NOT_PAIR, DefuncMl.ERR_DIV, DefuncMl.ERR_BUDGET, DefuncMl.ERR_DEPTH};
        for (int i = 0; i < terms.length; i++) {
            DefuncMl x = Term.compiled(64, 8, terms[i]);
            check.due("before: lastOutcome", x.lastOutcome(), DefuncMl.NO_RESULT);
            check.due("run", x.run(), wants[i]);
            check.due("lastOutcome", x.lastOutcome(), wants[i]);
        }
        int[] two = Term.pair(Term.fst(ZERO), Term.app(ZERO, ZERO));
        check.ends("the first of two errors", two, 64, 8, DefuncMl.ERR_NOT_PAIR, 0, 0);
    }

    @Says(in = RUN, sentence = "On OK, the program's value is kept as the result.")
    static void valueIsKept(Check check) {
        for (int value : Edge.INTS) {
            check.gives("int " + value, Term.num(value), value);
        }
        DefuncMl x = check.ends("each sort", States.valueOfEachSort(), 64, 8, DefuncMl.OK, 6, 1);
        for (int i = 0; i < 3; i++) {
            check.result("kept", x, 0, 0, DefuncMl.KIND_PAIR, 0);
            check.result("kept", x, 1, 1, DefuncMl.KIND_INT, 9);
            check.result("kept", x, 2, 0, DefuncMl.KIND_INT, 7);
            check.result("kept", x, 2, 2, DefuncMl.KIND_FUN, 1);
            x.node(DefuncMl.K_NUM, 0, 0);
            x.compile();
        }
        DefuncMl y = check.ends("a closure", FUN, 64, 8, DefuncMl.OK, 1, 0);
        check.result("a closure", y, 0, 0, DefuncMl.KIND_FUN, 0);
        DefuncMl z = check.ends("the last unit", Term.inPairs(3, ZERO), 3, 1, DefuncMl.OK, 3, 0);
        check.result("the last unit", z, 1, 1, DefuncMl.KIND_INT, 3);
    }

    @Says(in = RUN, sentence = "On an error there is no result, and units used and peak stay as "
        + "they were when the error arose.")
    static void whatAnErrorLeaves(Check check) {
        check.ends("at once", BAD_DIV, 64, 8, DefuncMl.ERR_DIV, 0, 0);
        check.ends("after two units", Term.pair(PAIR, Term.pair(FUN, BAD_DIV)), 64, 8,
            DefuncMl.ERR_DIV, 2, 0);
        check.ends("after a whole value", Term.add(PAIR, ONE), 64, 8, DefuncMl.ERR_NOT_INT, 1, 0);
        for (int n = 0; n <= 7; n++) {
            check.ends(n + 1 + " deep", errorBelow(n), 64, 8, DefuncMl.ERR_DIV, n + 2, n + 1);
        }
        check.ends("after 5 deep", Term.pair(Term.lineLoop(4), Term.fst(ZERO)), 64, 8,
            DefuncMl.ERR_NOT_PAIR, 6, 5);
        check.ends("an int applied", Term.app(Term.fst(Term.pair(ONE, FUN)), Term.app(FUN, ONE)),
            64, 8, DefuncMl.ERR_NOT_FUN, 4, 1);
    }

    @Says(in = RUN, sentence = "After ERR_BUDGET, units used equals B;")
    static void unitsAfterBudget(Check check) {
        for (int budget : Edge.INTS) {
            DefuncMl x = Term.compiled(budget, 8, Term.wideLoop());
            check.due("budget " + budget + ": run", x.run(), DefuncMl.ERR_BUDGET);
            check.due("budget " + budget + ": unitsUsed", x.unitsUsed(),
                Math.max(1, Math.min(64, budget)));
        }
        check.ends("at a fun", Term.pair(PAIR, FUN), 1, 8, DefuncMl.ERR_BUDGET, 1, 0);
        check.ends("at a pair", Term.pair(FUN, FUN), 2, 8, DefuncMl.ERR_BUDGET, 2, 0);
        check.ends("at a let", Term.let(0, FUN, ONE), 1, 8, DefuncMl.ERR_BUDGET, 1, 0);
        check.ends("at a letrec", Term.let(0, ONE, Term.letrec(1, 2, ONE, ONE)), 1, 8,
            DefuncMl.ERR_BUDGET, 1, 0);
        check.ends("at an application", Term.app(FUN, ONE), 1, 8, DefuncMl.ERR_BUDGET, 1, 0);
    }

    @Says(in = RUN, sentence = "after ERR_DEPTH, peak equals D.")
    static void peakAfterDepth(Check check) {
        for (int depth : Edge.INTS) {
            int want = Math.max(1, Math.min(8, depth));
            check.ends("maxDepth " + depth, Term.deepLoop(), 64, depth, DefuncMl.ERR_DEPTH,
                want + 1, want);
        }
    }

    @Says(in = RUN, sentence = "Running again gives the same answers: the same outcome, units, "
        + "peak and result.")
    static void runningAgain(Check check) {
        for (Map.Entry<String, Supplier<DefuncMl>> state : States.compiled().entrySet()) {
            DefuncMl x = state.getValue().get();
            int answer = x.run();
            for (int i = 0; i < 20; i++) {
                check.due(state.getKey() + ": run", x.run(), answer);
            }
            check.alike(state.getKey(), Questions.all(), () -> ranTimes(state.getValue(), 20),
                () -> ranTimes(state.getValue(), 1));
        }
    }

    private static DefuncMl ranTimes(Supplier<DefuncMl> state, int times) {
        DefuncMl x = state.get();
        for (int i = 0; i < times; i++) {
            x.run();
        }
        return x;
    }

    @Says(in = RUN, sentence = "run never changes the nodes, the compiled state, the tags or the "
        + "free variables.")
    static void programOutlivesRun(Check check) {
        check.noTrace(Questions.ofTheProgram(), States.all(), x -> {
            for (int i = 0; i < 3; i++) {
                x.run();
            }
        });
    }

    @Says(in = OUTCOME,
        sentence = "lastOutcome() answers the outcome of the latest run that was not refused.")
    static void outcomeOfTheLatest(Check check) {
        DefuncMl x = new DefuncMl(64, 8);
        int[][] terms = {BAD_DIV, ZERO, Term.deepLoop(), Term.fst(ZERO)};
        for (int[] term : terms) {
            Term.feed(x, term);
            x.compile();
            int answer = x.run();
            for (int i = 0; i < 3; i++) {
                x.node(0, 0, 0);
                x.compile();
                check.due("lastOutcome", x.lastOutcome(), answer);
            }
            x.reset();
            x.run();
            check.due("lastOutcome after a refused run", x.lastOutcome(), DefuncMl.NO_RESULT);
        }
    }

    @Says(in = OUTCOME, sentence = "It is NO_RESULT if there has been none since the start or the "
        + "last reset.")
    static void noOutcomeYet(Check check) {
        for (Map.Entry<String, Supplier<DefuncMl>> state : States.notCompiled().entrySet()) {
            DefuncMl x = state.getValue().get();
            check.due(state.getKey(), x.lastOutcome(), DefuncMl.NO_RESULT);
            x.run();
            check.due(state.getKey() + ", refused", x.lastOutcome(), DefuncMl.NO_RESULT);
        }
        DefuncMl y = Term.compiled(64, 8, ZERO);
        check.due("compiled", y.lastOutcome(), DefuncMl.NO_RESULT);
        y.run();
        check.due("run", y.lastOutcome(), DefuncMl.OK);
        y.reset();
        check.due("reset", y.lastOutcome(), DefuncMl.NO_RESULT);
        Term.feed(y, ZERO);
        y.compile();
        check.due("compiled again", y.lastOutcome(), DefuncMl.NO_RESULT);
    }

    @Says(in = OUTCOME, sentence = "Nothing changes.")
    static void outcomeLeavesNoTrace(Check check) {
        check.noTrace(States.all(), x -> {
            for (int i = 0; i < 50; i++) {
                x.lastOutcome();
            }
        });
    }

    /** One look at objects without a run since the start or the last reset. */
    private interface Look {
        void at(String what, DefuncMl x);
    }

    private static void withoutRun(Look look) {
        for (Map.Entry<String, Supplier<DefuncMl>> state : States.notCompiled().entrySet()) {
            DefuncMl x = state.getValue().get();
            look.at(state.getKey(), x);
            x.run();
            look.at(state.getKey() + ", refused", x);
        }
        look.at("compiled", Term.compiled(64, 8, Term.lineLoop(3)));
        DefuncMl y = Term.compiled(64, 8, Term.deepLoop());
        y.run();
        y.reset();
        y.run();
        look.at("reset, refused", y);
    }

    @Says(in = UNITS, sentence = "unitsUsed() answers the units used by the latest run that was "
        + "not refused, or 0 if there has been none.")
    static void unitsOfTheLatest(Check check) {
        withoutRun((what, x) -> check.due(what, x.unitsUsed(), 0));
        for (int units = 0; units <= 15; units++) {
            DefuncMl x = Term.compiled(64, 8, Term.inPairs(units, ZERO));
            check.runs(units + " units", x, DefuncMl.OK, units, 0);
            check.runs(units + " units again", x, DefuncMl.OK, units, 0);
        }
    }

    @Says(in = UNITS, sentence = "It is always in 0..B.")
    static void unitsInRange(Check check) {
        check.ends("none of 1", ZERO, 1, 1, DefuncMl.OK, 0, 0);
        check.ends("1 of 1", FUN, 1, 1, DefuncMl.OK, 1, 0);
        check.ends("64 of 64", Term.treeLoop(5), 64, 8, DefuncMl.OK, 64, 6);
        for (int budget = 1; budget <= 64; budget++) {
            DefuncMl x = Term.compiled(budget, 8, Term.wideLoop());
            for (int i = 0; i < 3; i++) {
                x.run();
                check.due("of " + budget, x.unitsUsed(), budget);
            }
        }
    }

    @Says(in = UNITS, sentence = "Nothing changes.")
    static void unitsLeaveNoTrace(Check check) {
        check.noTrace(States.all(), x -> {
            for (int i = 0; i < 50; i++) {
                x.unitsUsed();
            }
        });
    }

    @Says(in = PEAK, sentence = "peakDepth() answers the greatest number of active applications "
        + "reached in the latest run that was not refused, or 0 if there has been none.")
    static void peakOfTheLatest(Check check) {
        withoutRun((what, x) -> check.due(what, x.peakDepth(), 0));
        check.ends("no application", PAIR, 64, 8, DefuncMl.OK, 1, 0);
        for (int n = 0; n <= 7; n++) {
            DefuncMl x = Term.compiled(64, 8, Term.lineLoop(n));
            check.runs("line " + n, x, DefuncMl.OK, n + 2, n + 1);
            check.runs("line " + n + " again", x, DefuncMl.OK, n + 2, n + 1);
        }
        check.ends("3 deep, then 1 deep", Term.pair(Term.lineLoop(2), Term.app(FUN, ONE)), 64, 8,
            DefuncMl.OK, 7, 3);
    }

    @Says(in = PEAK, sentence = "It never exceeds D, and never exceeds unitsUsed().")
    static void peakInRange(Check check) {
        for (int depth = 1; depth <= 8; depth++) {
            for (int budget = 1; budget <= 64; budget++) {
                DefuncMl x = Term.compiled(budget, depth, Term.deepLoop());
                for (int i = 0; i < 2; i++) {
                    x.run();
                    String what = "budget " + budget + ", maxDepth " + depth;
                    check.due(what + ": peakDepth", x.peakDepth(), Math.min(budget - 1, depth));
                    check.due(what + ": in D", x.peakDepth() <= depth, true);
                    check.due(what + ": in units", x.peakDepth() <= x.unitsUsed(), true);
                }
            }
        }
    }

    @Says(in = PEAK, sentence = "Nothing changes.")
    static void peakLeavesNoTrace(Check check) {
        check.noTrace(States.all(), x -> {
            for (int i = 0; i < 50; i++) {
                x.peakDepth();
            }
        });
    }
}
