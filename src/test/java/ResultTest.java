/** Promises 15 and 16: looking inside the kept result. */
public final class ResultTest {
    private static final Check check = new Check();
    private static final int NONE = DefuncMl.KIND_NONE;
    private static final int INT = DefuncMl.KIND_INT;
    private static final int PAIR = DefuncMl.KIND_PAIR;
    private static final int FUN = DefuncMl.KIND_FUN;

    public static void main(String[] args) {
        intResult();
        funResult();
        nestedPairs();
        bitsBeyondStepsPlayNoPart();
        stepsOutsideAreRefused();
        longestWalks();
        sharedParts();
        resultOutlivesLookingAndRefusals();
        noResultAfterAnError();
        check.end();
    }

    private static DefuncMl ran(int[] term) {
        DefuncMl x = Term.compiled(64, 8, term);
        check.due("run", x.run(), DefuncMl.OK);
        return x;
    }

    private static void intResult() {
        for (int value : new int[] {Integer.MIN_VALUE, -1, 0, 1, 2, 3, Integer.MAX_VALUE}) {
            DefuncMl x = ran(Term.num(value));
            check.result("int", x, 0, 0, INT, value);
            check.result("int", x, 0, -1, INT, value);
            check.result("int", x, 1, 0, NONE, 0);
            check.result("int", x, 1, 1, NONE, 0);
            check.result("int", x, 16, 0, NONE, 0);
        }
    }

    private static void funResult() {
        int[] term = Term.app(Term.fun(0, Term.letrec(1, 2, Term.num(0), Term.var(1))),
            Term.num(0));
        DefuncMl x = ran(term);
        check.result("letrec's closure", x, 0, 0, FUN, 1);
        check.result("letrec's closure", x, 1, 0, NONE, 0);
        DefuncMl y = ran(Term.snd(Term.pair(Term.fun(0, Term.num(0)), Term.fun(0, Term.num(0)))));
        check.result("second fun", y, 0, 0, FUN, 1);
        check.result("second fun", y, 1, 1, NONE, 0);
    }

    /** ((1, 2), (fun, (3, (4, 5)))). */
    private static int[] tree() {
        int[] deep = Term.pair(Term.num(3), Term.pair(Term.num(4), Term.num(5)));
        return Term.pair(Term.pair(Term.num(1), Term.num(2)),
            Term.pair(Term.fun(0, Term.fun(1, Term.num(0))), deep));
    }

    private static void nestedPairs() {
        DefuncMl x = ran(tree());
        check.result("tree", x, 0, 0, PAIR, 0);
        check.result("tree", x, 1, 0, PAIR, 0);
        check.result("tree", x, 1, 1, PAIR, 0);
        check.result("tree", x, 2, 0, INT, 1);
        check.result("tree", x, 2, 2, INT, 2);
        check.result("tree", x, 2, 1, FUN, 0);
        check.result("tree", x, 2, 3, PAIR, 0);
        check.result("tree", x, 3, 3, INT, 3);
        check.result("tree", x, 3, 7, PAIR, 0);
        check.result("tree", x, 4, 7, INT, 4);
        check.result("tree", x, 4, 15, INT, 5);
        check.result("past an int", x, 3, 0, NONE, 0);
        check.result("past an int", x, 5, 15, NONE, 0);
        check.result("past a fun", x, 3, 1, NONE, 0);
        check.result("far past an int", x, 16, -1, NONE, 0);
    }

    private static void bitsBeyondStepsPlayNoPart() {
        DefuncMl x = ran(tree());
        for (int high : new int[] {0, 16, 0x10000, 0x7FFFFFF0, Integer.MIN_VALUE, -16}) {
            check.result("high bits " + high, x, 0, high | 15, PAIR, 0);
            check.result("high bits " + high, x, 2, high | 2, INT, 2);
            check.result("high bits " + high, x, 2, high | 4 | 2, INT, 2);
            check.result("high bits " + high, x, 4, high | 7, INT, 4);
            check.result("high bits " + high, x, 4, high | 15, INT, 5);
        }
    }

    private static void stepsOutsideAreRefused() {
        DefuncMl x = ran(tree());
        for (int steps : new int[] {Integer.MIN_VALUE, -16, -1, 17, 18, 32, 33, 34,
            Integer.MAX_VALUE}) {
            for (int path : new int[] {0, 2, 15, -1, Integer.MIN_VALUE}) {
                check.result("steps outside", x, steps, path, NONE, 0);
            }
        }
    }

    /** (depth - 1, (... (1, (0, 9)))). */
    private static int[] chain(int depth) {
        int[] term = Term.num(9);
        for (int i = 0; i < depth; i++) {
            term = Term.pair(Term.num(i), term);
        }
        return term;
    }

    private static void longestWalks() {
        DefuncMl fifteen = ran(chain(15));
        check.result("15 pairs", fifteen, 15, -1, INT, 9);
        check.result("15 pairs", fifteen, 15, 0x3FFF, INT, 0);
        check.result("15 pairs", fifteen, 16, -1, NONE, 0);

        // A function that puts 8 pairs around its argument, twice around a pair: 17 pairs.
        int[] eight = Term.pair(Term.var(0), Term.var(0));
        for (int i = 1; i < 8; i++) {
            eight = Term.pair(eight, Term.num(i));
        }
        int[] f = Term.fun(0, eight);
        int[] twice = Term.let(1, f, Term.app(Term.var(1), Term.app(Term.var(1),
            Term.pair(Term.num(50), Term.num(51)))));
        DefuncMl x = ran(twice);
        check.result("17 pairs", x, 0, 0, PAIR, 0);
        check.result("17 pairs", x, 8, 0, PAIR, 0);
        check.result("17 pairs", x, 15, 0, PAIR, 0);
        check.result("17 pairs", x, 16, 0, PAIR, 0);
        check.result("17 pairs", x, 17, 0, NONE, 0);
        check.result("17 pairs", x, 16, 0x10000, PAIR, 0);
        check.result("17 pairs", x, 16, 0x8000, PAIR, 0);
        check.result("17 pairs", x, 16, 0x4000, NONE, 0);
        check.result("17 pairs", x, 15, 0x4000, INT, 1);
    }

    private static void sharedParts() {
        DefuncMl x = ran(Term.let(0, Term.pair(Term.num(6), Term.num(7)),
            Term.pair(Term.var(0), Term.pair(Term.var(0), Term.fst(Term.var(0))))));
        check.result("shared", x, 2, 0, INT, 6);
        check.result("shared", x, 2, 2, INT, 7);
        check.result("shared", x, 3, 1, INT, 6);
        check.result("shared", x, 3, 5, INT, 7);
        check.result("shared", x, 2, 3, INT, 6);
    }

    private static void resultOutlivesLookingAndRefusals() {
        DefuncMl x = ran(tree());
        for (int i = 0; i < 3; i++) {
            check.result("kept", x, 4, 15, INT, 5);
            check.due("kept: node", x.node(DefuncMl.K_NUM, 0, 0), DefuncMl.ERR_COMPLETE);
            check.due("kept: compile", x.compile(), DefuncMl.OK);
            check.due("kept: lastOutcome", x.lastOutcome(), DefuncMl.OK);
            check.due("kept: unitsUsed", x.unitsUsed(), 6);
            check.due("kept: peakDepth", x.peakDepth(), 0);
        }
        x.reset();
        check.noResult("after reset", x);
    }

    private static void noResultAfterAnError() {
        DefuncMl x = Term.compiled(64, 8, Term.pair(tree(), Term.div(Term.num(1), Term.num(0))));
        check.due("error: run", x.run(), DefuncMl.ERR_DIV);
        check.noResult("error", x);
    }
}
