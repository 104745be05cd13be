/** The section "Values and evaluation", on which promises 11 to 16 rest. */
public final class EvaluationTest {
    private static final Check check = new Check();
    private static final int MIN = Integer.MIN_VALUE;
    private static final int MAX = Integer.MAX_VALUE;

    private static final int[] ZERO = Term.num(0);
    private static final int[] DIVIDES_BY_ZERO = Term.div(Term.num(1), Term.num(0));
    private static final int[] NOT_A_PAIR = Term.fst(Term.num(1));
    private static final int[] SOME_PAIR = Term.pair(Term.num(1), Term.num(2));
    private static final int[] SOME_FUN = Term.fun(0, Term.var(0));

    public static void main(String[] args) {
        arithmetic();
        comparison();
        operandsMustBeInts();
        conditional();
        pairs();
        functionsAndBindings();
        recursion();
        applicationChecks();
        leftToRight();
        check.end();
    }

    private static DefuncMl outcome(String what, int[] term, int outcome, int units, int peak) {
        DefuncMl x = Term.compiled(64, 8, term);
        check.runs(what, x, outcome, units, peak);
        if (outcome != DefuncMl.OK) {
            check.noResult(what, x);
        }
        return x;
    }

    private static void number(String what, int[] term, int value, int units, int peak) {
        DefuncMl x = outcome(what, term, DefuncMl.OK, units, peak);
        check.result(what, x, 0, 0, DefuncMl.KIND_INT, value);
    }

    private static void closure(String what, int[] term, int tag, int units, int peak) {
        DefuncMl x = outcome(what, term, DefuncMl.OK, units, peak);
        check.result(what, x, 0, 0, DefuncMl.KIND_FUN, tag);
    }

    private static void operates(int kind, int left, int right, int want) {
        number(left + " kind " + kind + " " + right,
            Term.op(kind, Term.num(left), Term.num(right)), want, 0, 0);
    }

    private static void arithmetic() {
        operates(DefuncMl.K_ADD, 3, 4, 7);
        operates(DefuncMl.K_ADD, MAX, 1, MIN);
        operates(DefuncMl.K_ADD, MIN, -1, MAX);
        operates(DefuncMl.K_SUB, 3, 4, -1);
        operates(DefuncMl.K_SUB, MIN, 1, MAX);
        operates(DefuncMl.K_MUL, -3, 4, -12);
        operates(DefuncMl.K_MUL, 65536, 65536, 0);
        operates(DefuncMl.K_MUL, MAX, 2, -2);
        operates(DefuncMl.K_MUL, MIN, -1, MIN);
        operates(DefuncMl.K_DIV, 7, 2, 3);
        operates(DefuncMl.K_DIV, -7, 2, -3);
        operates(DefuncMl.K_DIV, 7, -2, -3);
        operates(DefuncMl.K_DIV, -7, -2, 3);
        operates(DefuncMl.K_DIV, 0, 5, 0);
        operates(DefuncMl.K_DIV, MIN, -1, MIN);
        operates(DefuncMl.K_DIV, MIN, 1, MIN);
        for (int left : new int[] {MIN, -1, 0, 1, MAX}) {
            outcome(left + " / 0", Term.div(Term.num(left), ZERO), DefuncMl.ERR_DIV, 0, 0);
        }
    }

    private static void comparison() {
        operates(DefuncMl.K_LT, 1, 2, 1);
        operates(DefuncMl.K_LT, 2, 2, 0);
        operates(DefuncMl.K_LT, 3, 2, 0);
        operates(DefuncMl.K_LT, MIN, MAX, 1);
        operates(DefuncMl.K_LT, MAX, MIN, 0);
        operates(DefuncMl.K_LT, -1, 0, 1);
        operates(DefuncMl.K_EQ, 2, 2, 1);
        operates(DefuncMl.K_EQ, 2, 3, 0);
        operates(DefuncMl.K_EQ, 3, 2, 0);
        operates(DefuncMl.K_EQ, MIN, MIN, 1);
        operates(DefuncMl.K_EQ, -1, -1, 1);
    }

    private static void operandsMustBeInts() {
        for (int kind = DefuncMl.K_ADD; kind <= DefuncMl.K_EQ; kind++) {
            String what = "kind " + kind;
            outcome(what + ", pair left", Term.op(kind, SOME_PAIR, ZERO),
                DefuncMl.ERR_NOT_INT, 1, 0);
            outcome(what + ", pair right", Term.op(kind, ZERO, SOME_PAIR),
                DefuncMl.ERR_NOT_INT, 1, 0);
            outcome(what + ", fun left", Term.op(kind, SOME_FUN, ZERO),
                DefuncMl.ERR_NOT_INT, 1, 0);
            outcome(what + ", fun right", Term.op(kind, ZERO, SOME_FUN),
                DefuncMl.ERR_NOT_INT, 1, 0);
            outcome(what + ", both", Term.op(kind, SOME_PAIR, SOME_FUN),
                DefuncMl.ERR_NOT_INT, 2, 0);
            // The right operand is evaluated before the left one's kind is looked at.
            outcome(what + ", pair left, error right", Term.op(kind, SOME_PAIR, NOT_A_PAIR),
                DefuncMl.ERR_NOT_PAIR, 1, 0);
            outcome(what + ", error left, error right", Term.op(kind, NOT_A_PAIR, DIVIDES_BY_ZERO),
                DefuncMl.ERR_NOT_PAIR, 0, 0);
        }
    }

    private static void conditional() {
        int[] one = Term.num(1);
        int[] two = Term.num(2);
        for (int cond : new int[] {MIN, -1, 1, 2, 256, MAX}) {
            number("if " + cond, Term.iff(Term.num(cond), one, two), 1, 0, 0);
            number("if " + cond + ", else not evaluated",
                Term.iff(Term.num(cond), one, DIVIDES_BY_ZERO), 1, 0, 0);
        }
        number("if 0", Term.iff(ZERO, one, two), 2, 0, 0);
        number("if 0, then not evaluated", Term.iff(ZERO, DIVIDES_BY_ZERO, two), 2, 0, 0);
        number("if 0, then does not spend", Term.iff(ZERO, SOME_PAIR, two), 2, 0, 0);
        number("if 1, else does not spend", Term.iff(one, two, SOME_FUN), 2, 0, 0);
        outcome("if pair", Term.iff(SOME_PAIR, one, two), DefuncMl.ERR_NOT_INT, 1, 0);
        outcome("if fun", Term.iff(SOME_FUN, one, two), DefuncMl.ERR_NOT_INT, 1, 0);
        outcome("if error", Term.iff(DIVIDES_BY_ZERO, one, two), DefuncMl.ERR_DIV, 0, 0);
        outcome("then error", Term.iff(one, DIVIDES_BY_ZERO, two), DefuncMl.ERR_DIV, 0, 0);
        number("nested if in cond",
            Term.iff(Term.iff(ZERO, one, ZERO), one, Term.iff(one, Term.num(5), two)), 5, 0, 0);
        number("names after a cond", Term.let(0, Term.num(4),
            Term.iff(Term.let(0, ZERO, Term.var(0)), one, Term.var(0))), 4, 2, 0);
    }

    private static void pairs() {
        number("fst", Term.fst(SOME_PAIR), 1, 1, 0);
        number("snd", Term.snd(SOME_PAIR), 2, 1, 0);
        number("fst of snd", Term.fst(Term.snd(Term.pair(ZERO, SOME_PAIR))), 1, 2, 0);
        closure("fun in a pair", Term.snd(Term.pair(SOME_FUN, SOME_FUN)), 1, 3, 0);
        outcome("fst of int", Term.fst(ZERO), DefuncMl.ERR_NOT_PAIR, 0, 0);
        outcome("snd of int", Term.snd(ZERO), DefuncMl.ERR_NOT_PAIR, 0, 0);
        outcome("fst of fun", Term.fst(SOME_FUN), DefuncMl.ERR_NOT_PAIR, 1, 0);
        outcome("snd of fun", Term.snd(SOME_FUN), DefuncMl.ERR_NOT_PAIR, 1, 0);
        outcome("error in operand", Term.snd(DIVIDES_BY_ZERO), DefuncMl.ERR_DIV, 0, 0);
        outcome("error in first", Term.pair(DIVIDES_BY_ZERO, SOME_FUN), DefuncMl.ERR_DIV, 0, 0);
        // The pair itself is paid for after its parts.
        outcome("error in second", Term.pair(SOME_FUN, DIVIDES_BY_ZERO), DefuncMl.ERR_DIV, 1, 0);
    }

    private static void functionsAndBindings() {
        closure("fun", SOME_FUN, 0, 1, 0);
        closure("fun's body is not evaluated", Term.fun(0, DIVIDES_BY_ZERO), 0, 1, 0);
        number("application", Term.app(SOME_FUN, Term.num(9)), 9, 2, 1);
        number("let", Term.let(0, Term.num(3), Term.add(Term.var(0), Term.var(0))), 6, 1, 0);
        number("inner let hides", Term.let(0, Term.num(3),
            Term.let(0, Term.add(Term.var(0), Term.num(1)), Term.var(0))), 4, 2, 0);
        number("hiding ends", Term.let(0, Term.num(3),
            Term.add(Term.let(0, Term.num(5), Term.var(0)), Term.var(0))), 8, 2, 0);
        number("bindings of the closure, not of the call",
            Term.let(0, Term.num(1), Term.let(1, Term.fun(2, Term.add(Term.var(0), Term.var(2))),
                Term.let(0, Term.num(100), Term.app(Term.var(1), Term.num(10))))), 11, 5, 1);
        number("bindings after an application", Term.let(0, Term.num(7),
            Term.add(Term.app(Term.fun(0, Term.var(0)), Term.num(1)), Term.var(0))), 8, 3, 1);
        number("argument hides an outer name",
            Term.let(0, Term.num(1), Term.app(SOME_FUN, Term.num(2))), 2, 3, 1);
        number("two arguments", Term.app(Term.app(
            Term.fun(0, Term.fun(1, Term.sub(Term.var(0), Term.var(1)))), Term.num(9)),
            Term.num(4)), 5, 4, 1);
        number("two closures of one lambda",
            Term.let(0, Term.fun(1, Term.fun(2, Term.var(1))),
                Term.let(3, Term.app(Term.var(0), Term.num(10)),
                    Term.let(4, Term.app(Term.var(0), Term.num(20)),
                        Term.sub(Term.app(Term.var(3), ZERO), Term.app(Term.var(4), ZERO))))),
            -10, 10, 1);
        closure("a closure answered by a closure",
            Term.app(Term.fun(0, Term.fun(1, Term.var(0))), ZERO), 1, 3, 1);
        outcome("error in e1", Term.let(0, DIVIDES_BY_ZERO, ZERO), DefuncMl.ERR_DIV, 0, 0);
        outcome("error in e2", Term.let(0, ZERO, DIVIDES_BY_ZERO), DefuncMl.ERR_DIV, 1, 0);
        outcome("error in a body", Term.app(Term.fun(0, DIVIDES_BY_ZERO), ZERO),
            DefuncMl.ERR_DIV, 2, 1);
    }

    private static void recursion() {
        closure("letrec's closure", Term.letrec(0, 1, DIVIDES_BY_ZERO, Term.var(0)), 0, 1, 0);
        number("letrec, e2 only", Term.letrec(0, 1, DIVIDES_BY_ZERO, Term.num(5)), 5, 1, 0);
        int[] factorial = Term.letrec(0, 1, Term.iff(Term.lt(Term.var(1), Term.num(2)),
            Term.num(1), Term.mul(Term.var(1), Term.app(Term.var(0),
                Term.sub(Term.var(1), Term.num(1))))), Term.app(Term.var(0), Term.num(5)));
        number("factorial", factorial, 120, 6, 5);
        number("f == x means the argument in e1",
            Term.letrec(3, 3, Term.add(Term.var(3), Term.num(1)),
                Term.app(Term.var(3), Term.num(8))), 9, 2, 1);
        closure("f in e1 is the closure itself",
            Term.letrec(2, 3, Term.var(2), Term.app(Term.var(2), ZERO)), 0, 2, 1);
        number("f in e1 though hidden at the call",
            Term.letrec(0, 1, Term.iff(Term.var(1), Term.app(Term.var(0), ZERO), Term.num(6)),
                Term.let(2, Term.var(0), Term.let(0, Term.num(1),
                    Term.app(Term.var(2), Term.num(1))))), 6, 5, 2);
        number("f hides an outer name in e2", Term.let(0, ZERO,
            Term.letrec(0, 1, Term.num(4), Term.app(Term.var(0), ZERO))), 4, 3, 1);
        number("x is not bound in e2", Term.let(1, Term.num(3),
            Term.letrec(0, 1, Term.var(1), Term.add(Term.app(Term.var(0), Term.num(8)),
                Term.var(1)))), 11, 3, 1);
        number("an outer name in e1", Term.let(2, Term.num(30),
            Term.letrec(0, 1, Term.add(Term.var(1), Term.var(2)),
                Term.let(2, ZERO, Term.app(Term.var(0), Term.num(1))))), 31, 4, 1);
    }

    private static void applicationChecks() {
        outcome("apply an int", Term.app(ZERO, ZERO), DefuncMl.ERR_NOT_FUN, 0, 0);
        outcome("apply a pair", Term.app(SOME_PAIR, ZERO), DefuncMl.ERR_NOT_FUN, 1, 0);
        // The argument is evaluated before the function's kind is looked at.
        outcome("apply an int to an error", Term.app(ZERO, DIVIDES_BY_ZERO),
            DefuncMl.ERR_DIV, 0, 0);
        outcome("apply an int to a fun", Term.app(ZERO, SOME_FUN), DefuncMl.ERR_NOT_FUN, 1, 0);
        outcome("an error as function", Term.app(NOT_A_PAIR, DIVIDES_BY_ZERO),
            DefuncMl.ERR_NOT_PAIR, 0, 0);
        number("an application as argument",
            Term.app(SOME_FUN, Term.app(SOME_FUN, Term.num(3))), 3, 4, 1);
        number("an application in a body",
            Term.app(Term.fun(0, Term.app(SOME_FUN, Term.var(0))), Term.num(3)), 3, 4, 2);
        number("applications side by side",
            Term.add(Term.app(SOME_FUN, Term.num(3)), Term.app(SOME_FUN, Term.num(4))), 7, 4, 1);
    }

    private static void leftToRight() {
        int[] badApp = Term.app(ZERO, ZERO);
        outcome("let, first e1", Term.let(0, badApp, DIVIDES_BY_ZERO), DefuncMl.ERR_NOT_FUN, 0, 0);
        outcome("pair, first first", Term.pair(badApp, DIVIDES_BY_ZERO),
            DefuncMl.ERR_NOT_FUN, 0, 0);
        outcome("app, first function", Term.app(badApp, DIVIDES_BY_ZERO),
            DefuncMl.ERR_NOT_FUN, 0, 0);
        outcome("add, first left", Term.add(badApp, DIVIDES_BY_ZERO), DefuncMl.ERR_NOT_FUN, 0, 0);
        outcome("add, first left, other way", Term.add(DIVIDES_BY_ZERO, badApp),
            DefuncMl.ERR_DIV, 0, 0);
    }
}
