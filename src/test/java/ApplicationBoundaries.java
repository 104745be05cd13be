/** The counts of the section "Values and evaluation", and its applications. */
final class ApplicationBoundaries {
    private static final String IN = "Values and evaluation";

    private static final int[] ZERO = Term.num(0);
    private static final int[] ONE = Term.num(1);
    private static final int[] PAIR = Term.pair(Term.num(1), Term.num(2));
    private static final int[] FUN = Term.fun(0, Term.var(0));
    private static final int[] BAD_DIV = Term.div(Term.num(1), Term.num(0));
    private static final int[] BAD_PART = Term.fst(Term.num(1));

    private ApplicationBoundaries() {
    }

    @Says(in = IN, sentence = "A run keeps a count of units used and a count of active "
        + "applications, meaning applications whose body is being evaluated.")
    static void onlyBodiesAreActive(Check check) {
        int[] nested = ZERO;
        for (int i = 0; i < 7; i++) {
            nested = Term.app(FUN, nested);
        }
        check.ends("seven nested arguments", nested, 64, 1, DefuncMl.OK, 14, 1);
        int[] curried = Term.fun(0, Term.fun(1, Term.fun(2, Term.fun(3, Term.var(0)))));
        for (int i = 0; i < 4; i++) {
            curried = Term.app(curried, Term.num(i));
        }
        check.ends("four nested functions", curried, 64, 1, DefuncMl.OK, 8, 1);
        check.ends("a body in a body", Term.app(Term.fun(1, Term.app(FUN, ONE)), ONE), 64, 1,
            DefuncMl.ERR_DEPTH, 3, 1);
    }

    @Says(in = IN,
        sentence = "It also keeps the peak, the largest value the active count has reached.")
    static void peakIsTheLargest(Check check) {
        int[] shallow = Term.app(FUN, ONE);
        check.ends("no application", PAIR, 64, 8, DefuncMl.OK, 1, 0);
        check.ends("deep, then shallow", Term.pair(Term.lineLoop(4), shallow), 64, 8,
            DefuncMl.OK, 9, 5);
        check.ends("shallow, then deep", Term.pair(shallow, Term.lineLoop(4)), 64, 8,
            DefuncMl.OK, 9, 5);
        check.ends("deep, then an error", Term.pair(Term.lineLoop(7), BAD_DIV), 64, 8,
            DefuncMl.ERR_DIV, 9, 8);
    }

    @Says(in = IN, sentence = "if units used == B, the answer is ERR_BUDGET; otherwise units used "
        + "+= 1.")
    static void spendUpToB(Check check) {
        for (int units = 1; units <= 15; units++) {
            int[] pairs = Term.inPairs(units, ZERO);
            check.ends(units + " units of " + units, pairs, units, 8, DefuncMl.OK, units, 0);
            if (units > 1) {
                check.ends(units + " units of one less", pairs, units - 1, 8,
                    DefuncMl.ERR_BUDGET, units - 1, 0);
            }
        }
        int[] tree = Term.treeLoop(5);
        check.ends("64 units of 64", tree, 64, 8, DefuncMl.OK, 64, 6);
        check.ends("64 units of 63", tree, 63, 8, DefuncMl.ERR_BUDGET, 63, 6);
        check.ends("65 units of 64", Term.pair(tree, ZERO), 64, 8, DefuncMl.ERR_BUDGET, 64, 6);
    }

    @Says(in = IN, sentence = "K_APP: evaluate function, then argument.")
    static void functionThenArgument(Check check) {
        check.ends("function fails first", Term.app(BAD_PART, BAD_DIV), 64, 8,
            DefuncMl.ERR_NOT_PAIR, 0, 0);
        check.ends("argument fails before the function is judged", Term.app(ONE, BAD_DIV), 64, 8,
            DefuncMl.ERR_DIV, 0, 0);
        check.ends("argument spends before the function is judged", Term.app(ONE, PAIR), 64, 8,
            DefuncMl.ERR_NOT_FUN, 1, 0);
        check.ends("argument lacks a unit before the function is judged",
            Term.app(ONE, Term.pair(PAIR, ONE)), 1, 8, DefuncMl.ERR_BUDGET, 1, 0);
    }

    @Says(in = IN, sentence = "Then, in this order:")
    static void orderOfTheTests(Check check) {
        // Where an int is applied, no unit is left and the depth is reached.
        int[] all = Term.app(Term.fun(0, Term.app(Term.var(0), ONE)), ONE);
        check.ends("no closure, no unit, no depth", all, 2, 1, DefuncMl.ERR_NOT_FUN, 2, 1);
        check.ends("no unit, no depth", Term.deepLoop(), 2, 1, DefuncMl.ERR_BUDGET, 2, 1);
        check.ends("no depth", Term.deepLoop(), 3, 1, DefuncMl.ERR_DEPTH, 2, 1);
        check.ends("no unit, no depth, at the limits", Term.deepLoop(), 9, 8,
            DefuncMl.ERR_BUDGET, 9, 8);
        check.ends("no depth, at the limits", Term.deepLoop(), 10, 8, DefuncMl.ERR_DEPTH, 9, 8);
    }

    @Says(in = IN,
        sentence = "If the function is not a closure, the answer is ERR_NOT_FUN.")
    static void functionMustBeClosure(Check check) {
        for (int value : Edge.INTS) {
            check.ends("apply " + value, Term.app(Term.num(value), ONE), 64, 8,
                DefuncMl.ERR_NOT_FUN, 0, 0);
        }
        check.ends("apply a pair", Term.app(PAIR, ONE), 64, 8, DefuncMl.ERR_NOT_FUN, 1, 0);
        check.ends("apply a pair without a unit left", Term.app(PAIR, ONE), 1, 8,
            DefuncMl.ERR_NOT_FUN, 1, 0);
        check.ends("apply a pair of closures", Term.app(Term.pair(FUN, FUN), ONE), 64, 8,
            DefuncMl.ERR_NOT_FUN, 3, 0);
    }

    @Says(in = IN, sentence = "Else if units used == B, the answer is ERR_BUDGET.")
    static void applicationNeedsUnit(Check check) {
        int[] call = Term.app(FUN, ONE);
        check.ends("two units of two", call, 2, 8, DefuncMl.OK, 2, 1);
        check.ends("two units of one", call, 1, 8, DefuncMl.ERR_BUDGET, 1, 0);
        check.ends("the last of nine lacks", Term.lineLoop(7), 8, 8, DefuncMl.ERR_BUDGET, 8, 7);
        check.ends("the last of nine is there", Term.lineLoop(7), 9, 8, DefuncMl.OK, 9, 8);
    }

    @Says(in = IN, sentence = "Else if active applications == D, the answer is ERR_DEPTH.")
    static void depthUpToD(Check check) {
        for (int depth = 1; depth <= 8; depth++) {
            check.ends(depth + " active of " + depth, Term.lineLoop(depth - 1), 64, depth,
                DefuncMl.OK, depth + 1, depth);
            check.ends(depth + 1 + " active of " + depth, Term.lineLoop(depth), 64, depth,
                DefuncMl.ERR_DEPTH, depth + 1, depth);
        }
    }

    @Says(in = IN,
        sentence = "Else units used += 1, active += 1, and peak = max(peak, active).")
    static void applicationCounts(Check check) {
        for (int n = 0; n <= 5; n++) {
            check.ends("tree " + n, Term.treeLoop(n), 64, 8, DefuncMl.OK, 1 << (n + 1), n + 1);
        }
        for (int n = 0; n <= 7; n++) {
            check.ends("line " + n, Term.lineLoop(n), 64, 8, DefuncMl.OK, n + 2, n + 1);
        }
    }

    @Says(in = IN, sentence = "The closure's body is then evaluated in the closure's bindings, "
        + "extended as follows:")
    static void bodyInClosuresBindings(Check check) {
        int[] function = Term.fun(2, Term.add(Term.var(0), Term.var(2)));
        int[] call = Term.let(0, Term.num(100), Term.app(Term.var(1), Term.num(10)));
        check.gives("the caller's let does not reach in",
            Term.let(0, ONE, Term.let(1, function, call)), 11);
        int[] after = Term.add(Term.app(Term.fun(0, Term.var(0)), ONE), Term.var(0));
        check.gives("the caller's bindings are back afterwards", Term.let(0, Term.num(7), after),
            8);
    }

    @Says(in = IN, sentence = "for a closure of K_FUN x, x = the argument;")
    static void funBindsArgument(Check check) {
        for (int name = 0; name <= 7; name++) {
            for (int value : new int[] {Edge.MIN, -1, 0, 1, Edge.MAX}) {
                check.gives("name " + name + " = " + value,
                    Term.app(Term.fun(name, Term.var(name)), Term.num(value)), value);
            }
        }
        check.gives("x hides the closure's own binding",
            Term.let(3, ONE, Term.app(Term.fun(3, Term.var(3)), Term.num(2))), 2);
    }

    @Says(in = IN, sentence = "for a closure of K_LETREC f x, f = the closure itself and then x = "
        + "the argument.")
    static void letRecBindsBoth(Check check) {
        DefuncMl x = check.ends("f in the body",
            Term.letrec(0, 7, Term.pair(Term.var(0), Term.var(7)),
                Term.app(Term.var(0), Term.num(5))), 64, 8, DefuncMl.OK, 3, 1);
        check.result("f in the body", x, 1, 0, DefuncMl.KIND_FUN, 0);
        check.result("x in the body", x, 1, 1, DefuncMl.KIND_INT, 5);
        int[] body = Term.iff(Term.var(1), Term.app(Term.var(0), ZERO), Term.num(6));
        int[] call = Term.let(2, Term.var(0), Term.let(0, ONE, Term.app(Term.var(2), ONE)));
        check.gives("f in the body, hidden at the call", Term.letrec(0, 1, body, call), 6);
    }

    @Says(in = IN, sentence = "So if f == x, the name means the argument.")
    static void oneNameMeansArgument(Check check) {
        for (int name = 0; name <= 7; name++) {
            check.gives("name " + name, Term.letrec(name, name, Term.add(Term.var(name), ONE),
                Term.app(Term.var(name), Term.num(8))), 9);
        }
        check.ends("the argument is no closure", Term.letrec(2, 2, Term.app(Term.var(2), ONE),
            Term.app(Term.var(2), ONE)), 64, 8, DefuncMl.ERR_NOT_FUN, 2, 1);
    }

    @Says(in = IN, sentence = "Then active -= 1.")
    static void activeGoesDown(Check check) {
        int[] row = ZERO;
        for (int i = 0; i < 6; i++) {
            row = Term.add(row, Term.app(FUN, ONE));
        }
        check.ends("six side by side with depth 1", row, 64, 1, DefuncMl.OK, 12, 1);
        check.ends("63 applications with depth 6", Term.treeLoop(5), 64, 6, DefuncMl.OK, 64, 6);
        check.ends("to the depth twice", Term.pair(Term.lineLoop(7), Term.lineLoop(7)), 64, 8,
            DefuncMl.OK, 19, 8);
    }

    @Says(in = IN, sentence = "The application's value is the body's value.")
    static void valueOfTheBody(Check check) {
        check.gives("an int", Term.app(Term.fun(0, Term.num(Edge.MIN)), ONE), Edge.MIN);
        check.gives("an int from 8 deep", Term.lineLoop(7), 77);
        DefuncMl x = check.ends("a pair", Term.app(Term.fun(0, PAIR), ONE), 64, 8,
            DefuncMl.OK, 3, 1);
        check.result("a pair", x, 1, 1, DefuncMl.KIND_INT, 2);
        DefuncMl y = check.ends("a closure", Term.app(Term.fun(0, Term.fun(1, ONE)), ONE), 64, 8,
            DefuncMl.OK, 3, 1);
        check.result("a closure", y, 0, 0, DefuncMl.KIND_FUN, 1);
    }
}
