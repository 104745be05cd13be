/** The section "Values and evaluation" but for its counts and applications. */
final class EvaluationBoundaries {
    private static final String IN = "Values and evaluation";
    private static final int MIN = Edge.MIN;
    private static final int MAX = Edge.MAX;

    private static final int[] ZERO = Term.num(0);
    private static final int[] ONE = Term.num(1);
    private static final int[] PAIR = Term.pair(Term.num(1), Term.num(2));
    private static final int[] FUN = Term.fun(0, Term.var(0));
    private static final int[] BAD_DIV = Term.div(Term.num(1), Term.num(0));
    private static final int[] BAD_PART = Term.fst(Term.num(1));

    private EvaluationBoundaries() {
    }

    /** With limits that the program does not reach. */
    private static void fails(Check check, String what, int[] term, int outcome, int units) {
        check.ends(what, term, 64, 8, outcome, units, 0);
    }

    private static void operates(Check check, int kind, int left, int right, int want) {
        check.gives(left + " kind " + kind + " " + right,
            Term.op(kind, Term.num(left), Term.num(right)), want);
    }

    @Says(in = IN, sentence = "32-bit ints, wrapping as Java int;")
    static void intsWrap(Check check) {
        for (int value : Edge.INTS) {
            check.gives("value " + value, Term.let(0, Term.num(value), Term.var(0)), value);
        }
        check.gives("up and back", Term.sub(Term.add(Term.num(MAX), ONE), ONE), MAX);
        check.gives("above the top is below zero",
            Term.lt(Term.add(Term.num(MAX), ONE), ZERO), 1);
    }

    @Says(in = IN, sentence = "pairs of values;")
    static void pairsOfValues(Check check) {
        DefuncMl x = check.ends("parts of each sort", Term.pair(Term.pair(ONE, FUN), FUN), 64, 8,
            DefuncMl.OK, 4, 0);
        check.result("pair", x, 0, 0, DefuncMl.KIND_PAIR, 0);
        check.result("pair in a pair", x, 1, 0, DefuncMl.KIND_PAIR, 0);
        check.result("int in a pair", x, 2, 0, DefuncMl.KIND_INT, 1);
        check.result("closure in a pair", x, 2, 2, DefuncMl.KIND_FUN, 0);
        check.result("closure in the outer pair", x, 1, 1, DefuncMl.KIND_FUN, 1);
    }

    @Says(in = IN, sentence = "closures. Each closure is made by the evaluation of one lambda node "
        + "and carries that node's tag.")
    static void closuresCarryTags(Check check) {
        int[] term = Term.letrec(0, 1, Term.fun(2, ZERO),
            Term.pair(Term.app(Term.var(0), ZERO), Term.pair(Term.var(0), Term.fun(3, ZERO))));
        DefuncMl x = check.ends("closures", term, 64, 8, DefuncMl.OK, 6, 1);
        check.result("of the inner fun", x, 1, 0, DefuncMl.KIND_FUN, 1);
        check.result("of the letrec", x, 2, 1, DefuncMl.KIND_FUN, 0);
        check.result("of the last fun", x, 2, 3, DefuncMl.KIND_FUN, 2);
        int[] row = Term.fun(0, ZERO);
        for (int i = 0; i < 9; i++) {
            row = Term.pair(Term.fun(0, ZERO), row);
        }
        DefuncMl y = check.ends("ten closures", row, 64, 8, DefuncMl.OK, 19, 0);
        for (int tag = 0; tag < 9; tag++) {
            check.result("ten closures", y, tag + 1, (1 << tag) - 1, DefuncMl.KIND_FUN, tag);
        }
        check.result("ten closures", y, 9, 511, DefuncMl.KIND_FUN, 9);
    }

    @Says(in = IN, sentence = "Evaluation starts at the root with no bindings.")
    static void startsWithNoBindings(Check check) {
        int[] term = Term.let(0, Term.num(3), Term.let(0, Term.add(Term.var(0), ONE), Term.var(0)));
        DefuncMl x = Term.compiled(64, 8, term);
        for (int i = 0; i < 3; i++) {
            check.due("run " + i, x.run(), DefuncMl.OK);
            check.result("run " + i, x, 0, 0, DefuncMl.KIND_INT, 4);
        }
        x.reset();
        Term.feed(x, Term.var(0));
        check.due("a name of an earlier run: compile", x.compile(), DefuncMl.ERR_SCOPE);
        check.due("a name of an earlier run: run", x.run(), DefuncMl.ERR_NOT_COMPILED);
    }

    @Says(in = IN,
        sentence = "The first error stops everything, and nothing further is evaluated.")
    static void firstErrorStops(Check check) {
        fails(check, "in a pair", Term.pair(BAD_PART, BAD_DIV), DefuncMl.ERR_NOT_PAIR, 0);
        fails(check, "nothing is spent after it", Term.pair(BAD_DIV, Term.pair(PAIR, FUN)),
            DefuncMl.ERR_DIV, 0);
        fails(check, "outer nodes do not answer", Term.fst(Term.add(PAIR, BAD_DIV)),
            DefuncMl.ERR_DIV, 1);
        fails(check, "in a let", Term.let(0, BAD_DIV, BAD_PART), DefuncMl.ERR_DIV, 0);
        check.ends("in a body", Term.pair(Term.app(Term.fun(0, BAD_DIV), ZERO), BAD_PART), 64, 8,
            DefuncMl.ERR_DIV, 2, 1);
        check.ends("eight bodies deep", deepError(), 64, 8, DefuncMl.ERR_DIV, 9, 8);
    }

    /** let rec f x = if x then f (x - 1) else 1 / 0 in f 7. */
    private static int[] deepError() {
        int[] call = Term.app(Term.var(0), Term.sub(Term.var(1), ONE));
        return Term.letrec(0, 1, Term.iff(Term.var(1), call, BAD_DIV),
            Term.app(Term.var(0), Term.num(7)));
    }

    @Says(in = IN, sentence = "K_NUM: the constant a.")
    static void constants(Check check) {
        for (int value : Edge.INTS) {
            check.gives("constant " + value, Term.num(value), value);
        }
    }

    @Says(in = IN,
        sentence = "K_VAR: the value bound to the name, taking the innermost binding.")
    static void innermostBinding(Check check) {
        for (int name = 0; name <= 7; name++) {
            int[] inner = Term.let(name, Term.num(20 + name), Term.var(name));
            check.gives("name " + name + " bound twice", Term.let(name, Term.num(1), inner),
                20 + name);
            int[] beside = Term.let(7 - name, Term.num(1), Term.var(name));
            check.gives("name " + name + " bound once", Term.let(name, Term.num(30), beside), 30);
        }
        // A binding in one child does not reach the child after it.
        int[] inner = Term.let(0, ONE, Term.var(0));
        check.gives("after a cond, then",
            Term.let(0, Term.num(4), Term.iff(inner, Term.var(0), ZERO)), 4);
        check.gives("after a cond, else",
            Term.let(0, Term.num(4), Term.iff(Term.sub(inner, ONE), ZERO, Term.var(0))), 4);
        check.gives("after a left operand",
            Term.let(0, Term.num(4), Term.add(inner, Term.var(0))), 5);
        check.gives("after a first part",
            Term.let(0, Term.num(4), Term.snd(Term.pair(inner, Term.var(0)))), 4);
        check.gives("after an e1",
            Term.let(0, Term.num(4), Term.let(1, inner, Term.var(0))), 4);
        check.gives("after a function", Term.let(0, Term.num(4),
            Term.app(Term.let(0, ONE, Term.fun(1, Term.var(1))), Term.var(0))), 4);
    }

    @Says(in = IN, sentence = "K_ADD, K_SUB, K_MUL, K_DIV, K_LT, K_EQ: evaluate left, then right.")
    static void leftThenRight(Check check) {
        for (int kind = DefuncMl.K_ADD; kind <= DefuncMl.K_EQ; kind++) {
            fails(check, "kind " + kind + ", left fails first", Term.op(kind, BAD_PART, BAD_DIV),
                DefuncMl.ERR_NOT_PAIR, 0);
            fails(check, "kind " + kind + ", left fails first again",
                Term.op(kind, BAD_DIV, BAD_PART), DefuncMl.ERR_DIV, 0);
            fails(check, "kind " + kind + ", right is evaluated before left is judged",
                Term.op(kind, PAIR, BAD_DIV), DefuncMl.ERR_DIV, 1);
        }
    }

    @Says(in = IN, sentence = "If left is not an int, the answer is ERR_NOT_INT.")
    static void leftMustBeInt(Check check) {
        for (int kind = DefuncMl.K_ADD; kind <= DefuncMl.K_EQ; kind++) {
            fails(check, "kind " + kind + ", pair", Term.op(kind, PAIR, ONE),
                DefuncMl.ERR_NOT_INT, 1);
            fails(check, "kind " + kind + ", closure", Term.op(kind, FUN, ONE),
                DefuncMl.ERR_NOT_INT, 1);
            // For K_DIV this is told before the zero.
            fails(check, "kind " + kind + ", right is 0", Term.op(kind, PAIR, ZERO),
                DefuncMl.ERR_NOT_INT, 1);
        }
    }

    @Says(in = IN, sentence = "Otherwise, if right is not an int, the answer is ERR_NOT_INT.")
    static void rightMustBeInt(Check check) {
        for (int kind = DefuncMl.K_ADD; kind <= DefuncMl.K_EQ; kind++) {
            fails(check, "kind " + kind + ", pair", Term.op(kind, ONE, PAIR),
                DefuncMl.ERR_NOT_INT, 1);
            fails(check, "kind " + kind + ", closure", Term.op(kind, ONE, FUN),
                DefuncMl.ERR_NOT_INT, 1);
            fails(check, "kind " + kind + ", neither is one",
                Term.let(0, PAIR, Term.op(kind, Term.var(0), Term.var(0))),
                DefuncMl.ERR_NOT_INT, 2);
        }
    }

    @Says(in = IN, sentence = "K_ADD, K_SUB and K_MUL give the Java int sum, difference and "
        + "product, with wrap-around.")
    static void wrapAround(Check check) {
        operates(check, DefuncMl.K_ADD, MAX, 1, MIN);
        operates(check, DefuncMl.K_ADD, MIN, -1, MAX);
        operates(check, DefuncMl.K_ADD, MAX, MAX, -2);
        operates(check, DefuncMl.K_ADD, MIN, MIN, 0);
        operates(check, DefuncMl.K_SUB, MIN, 1, MAX);
        operates(check, DefuncMl.K_SUB, MAX, -1, MIN);
        operates(check, DefuncMl.K_SUB, 0, MIN, MIN);
        operates(check, DefuncMl.K_SUB, MIN, MAX, 1);
        operates(check, DefuncMl.K_MUL, MAX, 2, -2);
        operates(check, DefuncMl.K_MUL, MIN, 2, 0);
        operates(check, DefuncMl.K_MUL, MIN, -1, MIN);
        operates(check, DefuncMl.K_MUL, MAX, MAX, 1);
        operates(check, DefuncMl.K_MUL, 65536, 65536, 0);
        operates(check, DefuncMl.K_MUL, 65536, 32768, MIN);
        for (int left : Edge.INTS) {
            for (int right : new int[] {MIN, -1, 0, 1, 2, MAX}) {
                operates(check, DefuncMl.K_ADD, left, right, left + right);
                operates(check, DefuncMl.K_SUB, left, right, left - right);
                operates(check, DefuncMl.K_MUL, left, right, left * right);
            }
        }
    }

    @Says(in = IN, sentence = "K_DIV with right == 0 gives ERR_DIV.")
    static void divisionByZero(Check check) {
        for (int left : Edge.INTS) {
            fails(check, left + " / 0", Term.div(Term.num(left), ZERO), DefuncMl.ERR_DIV, 0);
        }
        operates(check, DefuncMl.K_DIV, 0, 1, 0);
        operates(check, DefuncMl.K_DIV, 0, -1, 0);
        fails(check, "by a sum that is 0", Term.div(ONE, Term.add(ONE, Term.num(-1))),
            DefuncMl.ERR_DIV, 0);
    }

    @Says(in = IN, sentence = "Otherwise it gives the Java int quotient, rounded toward zero;")
    static void towardZero(Check check) {
        operates(check, DefuncMl.K_DIV, 7, 2, 3);
        operates(check, DefuncMl.K_DIV, -7, 2, -3);
        operates(check, DefuncMl.K_DIV, 7, -2, -3);
        operates(check, DefuncMl.K_DIV, -7, -2, 3);
        operates(check, DefuncMl.K_DIV, 1, 2, 0);
        operates(check, DefuncMl.K_DIV, -1, 2, 0);
        operates(check, DefuncMl.K_DIV, 1, MIN, 0);
        operates(check, DefuncMl.K_DIV, MAX, MIN, 0);
        operates(check, DefuncMl.K_DIV, MIN, MAX, -1);
        operates(check, DefuncMl.K_DIV, MIN, MIN, 1);
        operates(check, DefuncMl.K_DIV, MIN, 1, MIN);
        operates(check, DefuncMl.K_DIV, MIN, 2, -1073741824);
    }

    @Says(in = IN, sentence = "Integer.MIN_VALUE / -1 is Integer.MIN_VALUE.")
    static void quotientThatWraps(Check check) {
        operates(check, DefuncMl.K_DIV, MIN, -1, MIN);
        operates(check, DefuncMl.K_DIV, MIN + 1, -1, MAX);
        operates(check, DefuncMl.K_DIV, MAX, -1, MIN + 1);
    }

    @Says(in = IN, sentence = "K_LT is 1 if left < right (signed), else 0.")
    static void signedLess(Check check) {
        operates(check, DefuncMl.K_LT, MIN, MAX, 1);
        operates(check, DefuncMl.K_LT, MAX, MIN, 0);
        operates(check, DefuncMl.K_LT, -1, 0, 1);
        operates(check, DefuncMl.K_LT, 0, -1, 0);
        operates(check, DefuncMl.K_LT, 0, 0, 0);
        operates(check, DefuncMl.K_LT, 0, 1, 1);
        operates(check, DefuncMl.K_LT, MIN, MIN + 1, 1);
        operates(check, DefuncMl.K_LT, MIN, MIN, 0);
        operates(check, DefuncMl.K_LT, MAX, MAX, 0);
        // A difference would wrap around.
        operates(check, DefuncMl.K_LT, MIN, 1, 1);
        operates(check, DefuncMl.K_LT, MAX, -1, 0);
    }

    @Says(in = IN, sentence = "K_EQ is 1 if the two are equal, else 0.")
    static void equal(Check check) {
        for (int value : Edge.INTS) {
            operates(check, DefuncMl.K_EQ, value, value, 1);
            operates(check, DefuncMl.K_EQ, value, value + 1, 0);
            operates(check, DefuncMl.K_EQ, value, value ^ MIN, 0);
            operates(check, DefuncMl.K_EQ, value, value ^ 256, 0);
        }
    }

    @Says(in = IN, sentence = "K_IF: evaluate cond.")
    static void condFirst(Check check) {
        fails(check, "cond fails", Term.iff(BAD_DIV, BAD_PART, BAD_PART), DefuncMl.ERR_DIV, 0);
        check.gives("cond is a sum", Term.iff(Term.add(ONE, Term.num(-1)), Term.num(2),
            Term.num(3)), 3);
    }

    @Says(in = IN, sentence = "K_IF: evaluate cond. If it is not an int, the answer is "
        + "ERR_NOT_INT.")
    static void condMustBeInt(Check check) {
        fails(check, "pair", Term.iff(PAIR, ONE, ONE), DefuncMl.ERR_NOT_INT, 1);
        fails(check, "closure", Term.iff(FUN, ONE, ONE), DefuncMl.ERR_NOT_INT, 1);
        fails(check, "no branch is evaluated", Term.iff(PAIR, BAD_DIV, BAD_DIV),
            DefuncMl.ERR_NOT_INT, 1);
    }

    @Says(in = IN, sentence = "If it is nonzero, evaluate then; otherwise evaluate else.")
    static void nonzeroTakesThen(Check check) {
        for (int cond : Edge.INTS) {
            check.gives("cond " + cond, Term.iff(Term.num(cond), Term.num(8), Term.num(9)),
                cond == 0 ? 9 : 8);
        }
    }

    @Says(in = IN, sentence = "The other branch is not evaluated.")
    static void otherBranchRests(Check check) {
        check.ends("else has an error", Term.iff(ONE, ONE, BAD_DIV), 64, 8, DefuncMl.OK, 0, 0);
        check.ends("then has an error", Term.iff(ZERO, BAD_DIV, ONE), 64, 8, DefuncMl.OK, 0, 0);
        check.ends("else would spend", Term.iff(ONE, ONE, PAIR), 64, 8, DefuncMl.OK, 0, 0);
        check.ends("then would spend", Term.iff(ZERO, PAIR, ONE), 64, 8, DefuncMl.OK, 0, 0);
        check.ends("else would not end", Term.iff(ONE, ONE, Term.deepLoop()), 64, 8,
            DefuncMl.OK, 0, 0);
    }

    @Says(in = IN, sentence = "K_PAIR: evaluate first, then second, then SPEND.")
    static void pairSpendsLast(Check check) {
        fails(check, "first fails first", Term.pair(BAD_PART, BAD_DIV), DefuncMl.ERR_NOT_PAIR, 0);
        fails(check, "second fails before the unit", Term.pair(ONE, BAD_DIV), DefuncMl.ERR_DIV, 0);
        // The only unit goes to the first part.
        check.ends("first spends first", Term.pair(FUN, BAD_DIV), 1, 8, DefuncMl.ERR_DIV, 1, 0);
        check.ends("the unit is asked for last", Term.pair(FUN, ONE), 1, 8,
            DefuncMl.ERR_BUDGET, 1, 0);
    }

    @Says(in = IN, sentence = "The value is the pair of the two.")
    static void pairOfTheTwo(Check check) {
        DefuncMl x = check.ends("extremes", Term.pair(Term.num(MIN), Term.num(MAX)), 1, 1,
            DefuncMl.OK, 1, 0);
        check.result("first", x, 1, 0, DefuncMl.KIND_INT, MIN);
        check.result("second", x, 1, 1, DefuncMl.KIND_INT, MAX);
        DefuncMl y = check.ends("of one value", Term.let(0, PAIR,
            Term.pair(Term.var(0), Term.var(0))), 64, 8, DefuncMl.OK, 3, 0);
        check.result("shared", y, 2, 0, DefuncMl.KIND_INT, 1);
        check.result("shared", y, 2, 3, DefuncMl.KIND_INT, 2);
    }

    @Says(in = IN, sentence = "K_FST / K_SND: evaluate the operand.")
    static void operandFirst(Check check) {
        fails(check, "fst of an error", Term.fst(BAD_DIV), DefuncMl.ERR_DIV, 0);
        fails(check, "snd of an error", Term.snd(BAD_DIV), DefuncMl.ERR_DIV, 0);
        fails(check, "the part not asked for fails", Term.fst(Term.pair(ONE, BAD_DIV)),
            DefuncMl.ERR_DIV, 0);
    }

    @Says(in = IN, sentence = "If it is not a pair, the answer is ERR_NOT_PAIR.")
    static void operandMustBePair(Check check) {
        for (int value : Edge.INTS) {
            fails(check, "fst of " + value, Term.fst(Term.num(value)), DefuncMl.ERR_NOT_PAIR, 0);
            fails(check, "snd of " + value, Term.snd(Term.num(value)), DefuncMl.ERR_NOT_PAIR, 0);
        }
        fails(check, "fst of a closure", Term.fst(FUN), DefuncMl.ERR_NOT_PAIR, 1);
        fails(check, "snd of a closure", Term.snd(FUN), DefuncMl.ERR_NOT_PAIR, 1);
        fails(check, "one part too far", Term.fst(Term.fst(PAIR)), DefuncMl.ERR_NOT_PAIR, 1);
    }

    @Says(in = IN, sentence = "Otherwise the value is its first / second part.")
    static void parts(Check check) {
        check.gives("first", Term.fst(PAIR), 1);
        check.gives("second", Term.snd(PAIR), 2);
        int[] deep = Term.inPairs(10, Term.num(MIN));
        for (int i = 0; i < 10; i++) {
            deep = Term.fst(deep);
        }
        check.gives("first ten times", deep, MIN);
    }

    @Says(in = IN, sentence = "K_FUN: SPEND.")
    static void funSpends(Check check) {
        check.ends("with its unit", FUN, 1, 1, DefuncMl.OK, 1, 0);
        check.ends("without a unit", Term.let(1, ONE, FUN), 1, 1, DefuncMl.ERR_BUDGET, 1, 0);
        check.ends("each evaluation anew", Term.let(1, Term.fun(2, FUN),
            Term.pair(Term.app(Term.var(1), ONE), Term.app(Term.var(1), ONE))), 64, 8,
            DefuncMl.OK, 7, 1);
        check.ends("its body is not evaluated", Term.fun(0, BAD_DIV), 1, 1, DefuncMl.OK, 1, 0);
    }

    @Says(in = IN, sentence = "The value is a closure of the current bindings.")
    static void closureOfBindings(Check check) {
        int[] later = Term.let(0, Term.num(100), Term.app(Term.var(1), ZERO));
        check.gives("a later let does not reach in",
            Term.let(0, Term.num(3), Term.let(1, Term.fun(2, Term.var(0)), later)), 3);
        int[] maker = Term.fun(1, Term.fun(2, Term.var(1)));
        check.gives("two closures of one lambda", Term.let(0, maker,
            Term.let(3, Term.app(Term.var(0), Term.num(10)),
                Term.let(4, Term.app(Term.var(0), Term.num(20)),
                    Term.sub(Term.app(Term.var(3), ZERO), Term.app(Term.var(4), ZERO))))), -10);
    }

    @Says(in = IN, sentence = "K_LET: evaluate e1, then SPEND, then evaluate e2 with x bound to "
        + "e1's value.")
    static void letSpendsBetween(Check check) {
        check.ends("e1 fails before the unit", Term.let(0, BAD_DIV, ONE), 64, 8,
            DefuncMl.ERR_DIV, 0, 0);
        check.ends("the unit is asked for before e2", Term.let(0, FUN, BAD_DIV), 1, 8,
            DefuncMl.ERR_BUDGET, 1, 0);
        check.ends("e2 fails after the unit", Term.let(0, ONE, BAD_DIV), 1, 8,
            DefuncMl.ERR_DIV, 1, 0);
        check.gives("x is e1's value", Term.let(7, Term.num(MIN), Term.var(7)), MIN);
    }

    @Says(in = IN, sentence = "K_LET: evaluate e1, then SPEND, then evaluate e2 with x bound to "
        + "e1's value. The value is e2's value.")
    static void letGivesE2(Check check) {
        check.gives("e2 without x", Term.let(0, Term.num(1), Term.num(2)), 2);
        check.gives("let as e1", Term.let(0, Term.let(0, ONE, Term.num(6)), Term.var(0)), 6);
    }

    @Says(in = IN,
        sentence = "K_LETREC: SPEND, then make a closure c of the current bindings.")
    static void letRecSpendsFirst(Check check) {
        int[] term = Term.letrec(0, 1, ONE, BAD_DIV);
        check.ends("e2 fails after the unit", term, 1, 8, DefuncMl.ERR_DIV, 1, 0);
        check.ends("the unit is asked for first", Term.let(2, ONE, term), 1, 8,
            DefuncMl.ERR_BUDGET, 1, 0);
        int[] call = Term.let(2, Term.num(100), Term.app(Term.var(0), ONE));
        check.gives("a later let does not reach in",
            Term.let(2, Term.num(30), Term.letrec(0, 1, Term.var(2), call)), 30);
    }

    @Says(in = IN, sentence = "Evaluate e2 with f bound to c.")
    static void e2HasF(Check check) {
        DefuncMl x = check.ends("f itself", Term.letrec(7, 0, ONE, Term.var(7)), 1, 1,
            DefuncMl.OK, 1, 0);
        check.result("f itself", x, 0, 0, DefuncMl.KIND_FUN, 0);
        DefuncMl y = check.ends("f == x", Term.letrec(3, 3, ONE, Term.var(3)), 1, 1,
            DefuncMl.OK, 1, 0);
        check.result("f == x", y, 0, 0, DefuncMl.KIND_FUN, 0);
        check.gives("x has its outer value", Term.let(1, Term.num(5),
            Term.letrec(0, 1, ONE, Term.var(1))), 5);
    }

    @Says(in = IN, sentence = "Evaluate e2 with f bound to c. The value is e2's value.")
    static void letRecGivesE2(Check check) {
        check.gives("e2 without f", Term.letrec(0, 1, Term.num(1), Term.num(2)), 2);
    }

    @Says(in = IN, sentence = "e1 is not evaluated here; it is the body of c.")
    static void e1Rests(Check check) {
        check.ends("e1 has an error", Term.letrec(0, 1, BAD_DIV, ONE), 1, 1, DefuncMl.OK, 1, 0);
        check.ends("e1 would spend", Term.letrec(0, 1, PAIR, ONE), 1, 1, DefuncMl.OK, 1, 0);
        check.ends("e1 is evaluated when c is applied",
            Term.letrec(0, 1, BAD_DIV, Term.app(Term.var(0), ONE)), 64, 8, DefuncMl.ERR_DIV, 2, 1);
    }
}
