/** The sections "Scope" and "Lambdas and free variables". */
final class ScopeBoundaries {
    private static final int[] ZERO = Term.num(0);

    private ScopeBoundaries() {
    }

    private static void compiles(Check check, String what, int[] term, int want) {
        DefuncMl x = Term.fed(64, 8, term);
        check.due(what + ": compile", x.compile(), want);
    }

    private static void inScope(Check check, String what, int[] term) {
        compiles(check, what, term, DefuncMl.OK);
    }

    private static void outOfScope(Check check, String what, int[] term) {
        compiles(check, what, term, DefuncMl.ERR_SCOPE);
    }

    @Says(in = "Scope", sentence = "K_FUN x binds x in its body.")
    static void funBinds(Check check) {
        for (int name = 0; name <= 7; name++) {
            inScope(check, "fun " + name, Term.fun(name, Term.var(name)));
            outOfScope(check, "another than " + name, Term.fun(name, Term.var(7 - name)));
        }
        outOfScope(check, "beside the body", Term.app(Term.fun(0, Term.var(0)), Term.var(0)));
    }

    @Says(in = "Scope", sentence = "K_LET x binds x in e2 only, not in e1.")
    static void letBinds(Check check) {
        for (int name = 0; name <= 7; name++) {
            inScope(check, "let " + name + " in e2", Term.let(name, ZERO, Term.var(name)));
            outOfScope(check, "let " + name + " in e1", Term.let(name, Term.var(name), ZERO));
        }
        outOfScope(check, "in e1 and e2", Term.let(0, Term.var(0), Term.var(0)));
        check.gives("e1 has the outer one",
            Term.let(0, Term.num(3), Term.let(0, Term.add(Term.var(0), Term.num(1)),
                Term.var(0))), 4);
    }

    @Says(in = "Scope", sentence = "K_LETREC f x binds f and then x in e1.")
    static void letRecBindsInE1(Check check) {
        for (int name = 0; name <= 7; name++) {
            int[] v = Term.var(name);
            inScope(check, "f " + name + " in e1", Term.letrec(name, 7 - name, v, ZERO));
            inScope(check, "x " + name + " in e1", Term.letrec(7 - name, name, v, ZERO));
        }
        outOfScope(check, "another in e1", Term.letrec(0, 1, Term.var(2), ZERO));
    }

    @Says(in = "Scope", sentence = "x is the innermost of the two, so if f == x the name means x.")
    static void oneNameForBoth(Check check) {
        for (int name = 0; name <= 7; name++) {
            check.gives("f == x == " + name, Term.letrec(name, name, Term.var(name),
                Term.app(Term.var(name), Term.num(12))), 12);
        }
    }

    @Says(in = "Scope", sentence = "It binds f in e2.")
    static void letRecBindsInE2(Check check) {
        for (int name = 0; name <= 7; name++) {
            int[] v = Term.var(name);
            inScope(check, "f " + name + " in e2", Term.letrec(name, 7 - name, ZERO, v));
            outOfScope(check, "x " + name + " in e2", Term.letrec(7 - name, name, ZERO, v));
        }
        inScope(check, "f == x in e2", Term.letrec(4, 4, ZERO, Term.var(4)));
        outOfScope(check, "another in e2", Term.letrec(0, 1, ZERO, Term.var(2)));
    }

    @Says(in = "Scope", sentence = "Inner bindings hide outer ones of the same name.")
    static void innerHidesOuter(Check check) {
        int[] v = Term.var(5);
        check.gives("fun in let",
            Term.let(5, Term.num(1), Term.app(Term.fun(5, v), Term.num(2))), 2);
        check.gives("let in fun",
            Term.app(Term.fun(5, Term.let(5, Term.num(2), v)), Term.num(1)), 2);
        check.gives("f in let",
            Term.let(5, Term.num(1), Term.letrec(5, 6, Term.num(2), Term.app(v, ZERO))), 2);
        check.gives("x in let", Term.let(5, Term.num(1),
            Term.letrec(6, 5, v, Term.app(Term.var(6), Term.num(2)))), 2);
        check.gives("hidden only inside",
            Term.let(5, Term.num(1), Term.add(Term.let(5, Term.num(10), v), v)), 11);
        int[] nested = v;
        for (int i = 1; i <= 15; i++) {
            nested = Term.let(5, Term.num(i), nested);
        }
        check.gives("fifteen lets of one name", nested, 1);
    }

    @Says(in = "Scope", sentence = "A K_VAR is in scope if some ancestor binds its name for the "
        + "child path leading to it.")
    static void someAncestorBinds(Check check) {
        for (int name = 0; name <= 7; name++) {
            outOfScope(check, "no ancestor", Term.var(name));
        }
        int[] far = Term.var(6);
        for (int i = 0; i < 30; i++) {
            far = i % 2 == 0 ? Term.fst(far) : Term.fun(i % 6, far);
        }
        outOfScope(check, "thirty ancestors that do not bind it", far);
        inScope(check, "the farthest of 31 ancestors", Term.fun(6, far));
        int[] v = Term.var(6);
        for (int kind = DefuncMl.K_ADD; kind <= DefuncMl.K_APP; kind++) {
            if (isTransparent(kind)) {
                outOfScope(check, "left of kind " + kind, Term.op(kind, v, ZERO));
                outOfScope(check, "right of kind " + kind, Term.op(kind, ZERO, v));
                inScope(check, "both of kind " + kind, Term.fun(6, Term.op(kind, v, v)));
            }
        }
        outOfScope(check, "cond", Term.iff(v, ZERO, ZERO));
        outOfScope(check, "then", Term.iff(ZERO, v, ZERO));
        outOfScope(check, "else", Term.iff(ZERO, ZERO, v));
        outOfScope(check, "bound by a sibling", Term.pair(Term.let(6, ZERO, v), v));
    }

    private static boolean isTransparent(int kind) {
        return kind <= DefuncMl.K_EQ || kind == DefuncMl.K_PAIR || kind == DefuncMl.K_APP;
    }

    /** Every name is bound around the term, whose own lambdas then have the tags from 8 on. */
    private static void free(Check check, String what, int[] term, int mask) {
        int[] whole = term;
        for (int name = 7; name >= 0; name--) {
            whole = Term.fun(name, whole);
        }
        DefuncMl x = Term.compiled(64, 8, whole);
        check.due(what + ": freeVars", x.freeVars(8), mask);
    }

    @Says(in = "Lambdas and free variables",
        sentence = "Every K_FUN and every K_LETREC node is a lambda.")
    static void lambdaKinds(Check check) {
        for (int kind = DefuncMl.K_NUM; kind <= DefuncMl.K_APP; kind++) {
            DefuncMl x = new DefuncMl(64, 8);
            x.node(DefuncMl.K_LET, 0, 0);
            x.node(DefuncMl.K_NUM, 0, 0);
            x.node(kind, 0, 0);
            for (int i = 0; i < 3 && !x.isComplete(); i++) {
                x.node(DefuncMl.K_NUM, 0, 0);
            }
            boolean lambda = kind == DefuncMl.K_FUN || kind == DefuncMl.K_LETREC;
            check.due("kind " + kind + ": compile", x.compile(), DefuncMl.OK);
            check.due("kind " + kind + ": lambdaCount", x.lambdaCount(), lambda ? 1 : 0);
        }
    }

    @Says(in = "Lambdas and free variables", sentence = "Tags 0, 1, 2, ... go to the lambdas in "
        + "the order their nodes were fed.")
    static void tagsInFeedingOrder(Check check) {
        int[] term = Term.letrec(0, 1, Term.fun(2, ZERO),
            Term.pair(Term.letrec(3, 4, ZERO, Term.fun(5, ZERO)), Term.fun(6, ZERO)));
        DefuncMl x = Term.compiled(64, 8, term);
        int[] nodes = {0, 1, 4, 6, 8};
        check.due("lambdaCount", x.lambdaCount(), nodes.length);
        for (int tag = 0; tag < nodes.length; tag++) {
            check.due("lambdaNode(" + tag + ")", x.lambdaNode(tag), nodes[tag]);
        }
        DefuncMl y = Term.compiled(64, 8, Term.chain(32));
        for (int tag = 0; tag <= 30; tag++) {
            check.due("31 lambdas: lambdaNode(" + tag + ")", y.lambdaNode(tag), tag);
        }
    }

    @Says(in = "Lambdas and free variables", sentence = "A name occurs free in an expression if "
        + "the expression contains a K_VAR of that name that has no ancestor inside that "
        + "expression which binds its name for the child path leading to it, under the Scope rules "
        + "(for instance, K_LET x does not bind x in its e1, and K_LETREC f x binds only f in its "
        + "e2).")
    static void freeOccurrences(Check check) {
        int[] v = Term.var(2);
        free(check, "no K_VAR", Term.fun(0, ZERO), 0);
        free(check, "no ancestor", Term.fun(0, v), 4);
        free(check, "fun binds it", Term.fun(0, Term.fun(2, v)), 0);
        free(check, "let, in e1", Term.fun(0, Term.let(2, v, ZERO)), 4);
        free(check, "let, in e2", Term.fun(0, Term.let(2, ZERO, v)), 0);
        free(check, "let, in e1 and e2", Term.fun(0, Term.let(2, v, v)), 4);
        free(check, "f of letrec, in e1", Term.fun(0, Term.letrec(2, 3, v, ZERO)), 0);
        free(check, "f of letrec, in e2", Term.fun(0, Term.letrec(2, 3, ZERO, v)), 0);
        free(check, "x of letrec, in e1", Term.fun(0, Term.letrec(3, 2, v, ZERO)), 0);
        free(check, "x of letrec, in e2", Term.fun(0, Term.letrec(3, 2, ZERO, v)), 4);
        free(check, "one bound, one not", Term.fun(0, Term.pair(Term.fun(2, v), v)), 4);
    }

    @Says(in = "Lambdas and free variables",
        sentence = "The free variables of K_FUN x e are the names occurring free in e, except x.")
    static void freeInFun(Check check) {
        for (int name = 0; name <= 7; name++) {
            free(check, "x itself", Term.fun(name, Term.var(name)), 0);
            free(check, "another", Term.fun(7 - name, Term.var(name)), 1 << name);
            free(check, "both", Term.fun(7 - name, Term.add(Term.var(name), Term.var(7 - name))),
                1 << name);
        }
    }

    @Says(in = "Lambdas and free variables", sentence = "The free variables of K_LETREC f x e1 e2 "
        + "are the names occurring free in e1, except f and x.")
    static void freeInLetRec(Check check) {
        for (int name = 0; name <= 7; name++) {
            int other = 7 - name;
            free(check, "f", Term.letrec(name, other, Term.var(name), ZERO), 0);
            free(check, "x", Term.letrec(other, name, Term.var(name), ZERO), 0);
            free(check, "f == x", Term.letrec(name, name, Term.var(name), ZERO), 0);
            free(check, "another", Term.letrec(name, name, Term.var(other), ZERO), 1 << other);
        }
    }

    @Says(in = "Lambdas and free variables", sentence = "Whatever occurs in e2 does not count.")
    static void e2DoesNotCount(Check check) {
        for (int name = 0; name <= 7; name++) {
            free(check, "only in e2", Term.letrec(1, 2, ZERO, Term.var(name)), 0);
            free(check, "in e1 and e2", Term.letrec(1, 2, Term.var(4), Term.var(name)), 16);
        }
    }
}
