/** Makes programs from a fixed sequence of numbers, mostly such as run without a wrong kind. */
final class Programs {
    private static final int INT = 0;
    private static final int PAIR = 1;
    private static final int FUN = 2;
    private static final int UNBOUND = 3;

    private long state;

    Programs(long seed) {
        state = seed;
    }

    /** A number in 0..bound-1; the same sequence in every run of the tests. */
    int below(int bound) {
        state = state * 6364136223846793005L + 1442695040888963407L;
        return (int) ((state >>> 33) % bound);
    }

    boolean oneIn(int many) {
        return below(many) == 0;
    }

    /** A program of at most 32 nodes. */
    int[] program() {
        int[] scope = {UNBOUND, UNBOUND, UNBOUND, UNBOUND, UNBOUND, UNBOUND, UNBOUND, UNBOUND};
        int size = 4 + below(40);
        int[] term = term(size, below(3), scope);
        while (term.length > 3 * DefuncMl.MAX_NODES) {
            term = term(size, below(3), scope);
        }
        return term;
    }

    private int[] term(int size, int wanted, int[] scope) {
        int want = oneIn(40) ? below(3) : wanted;
        if (size <= 1 || oneIn(8)) {
            return leaf(want, scope);
        }
        switch (below(9)) {
            case 0:
                return binding(size, want, scope);
            case 1:
            case 2:
                return recursive(size, want, scope);
            case 3:
                return Term.iff(term(size / 3, INT, scope), term(size / 3, want, scope),
                    term(size / 3, want, scope));
            case 4:
            case 5:
                return Term.app(term(size / 2, FUN, scope), term(size / 2, below(3), scope));
            case 6:
                int[] pair = term(size - 1, PAIR, scope);
                return oneIn(2) ? Term.fst(pair) : Term.snd(pair);
            default:
                return direct(size, want, scope);
        }
    }

    private int[] leaf(int want, int[] scope) {
        int start = below(8);
        for (int i = 0; i < 8; i++) {
            int name = (start + i) % 8;
            if (scope[name] == want) {
                return Term.var(name);
            }
        }
        if (oneIn(60)) {
            return Term.var(start);
        }
        if (want == PAIR) {
            return Term.pair(number(), number());
        }
        return want == FUN ? Term.fun(start, Term.var(start)) : number();
    }

    private int[] number() {
        switch (below(8)) {
            case 0:
                return Term.num(Integer.MIN_VALUE);
            case 1:
                return Term.num(Integer.MAX_VALUE);
            default:
                return Term.num(below(8) - 2);
        }
    }

    private int[] direct(int size, int want, int[] scope) {
        if (want == PAIR) {
            return Term.pair(term(size / 2, below(3), scope), term(size / 2, below(3), scope));
        }
        if (want == FUN) {
            int name = below(8);
            return Term.fun(name, term(size - 1, below(3), bound(scope, name, below(3))));
        }
        int kind = DefuncMl.K_ADD + below(6);
        return Term.op(kind, term(size / 2, INT, scope), term(size / 2, INT, scope));
    }

    private int[] binding(int size, int want, int[] scope) {
        int name = below(8);
        int sort = below(3);
        int[] e1 = term(size / 2, sort, scope);
        return Term.let(name, e1, term(size / 2, want, bound(scope, name, sort)));
    }

    private int[] recursive(int size, int want, int[] scope) {
        int f = below(8);
        int x = oneIn(6) ? f : below(8);
        int[] inner = bound(bound(scope, f, FUN), x, INT);
        int[] body = term(size / 2, below(3), inner);
        if (oneIn(2)) {
            int[] less = Term.app(Term.var(f), Term.sub(Term.var(x), Term.num(1)));
            int[] more = Term.op(oneIn(2) ? DefuncMl.K_PAIR : DefuncMl.K_ADD, less, body);
            body = Term.iff(Term.var(x), more, Term.num(below(4)));
        }
        return Term.letrec(f, x, body, term(size / 2, want, bound(scope, f, FUN)));
    }

    private static int[] bound(int[] scope, int name, int sort) {
        int[] inner = scope.clone();
        inner[name] = sort;
        return inner;
    }
}
