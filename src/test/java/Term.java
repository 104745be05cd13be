/** Writes programs as nested calls; a term is its nodes in prefix order, three ints a node. */
final class Term {
    private Term() {
    }

    static int[] num(int value) {
        return new int[] {DefuncMl.K_NUM, value, 0};
    }

    static int[] var(int name) {
        return new int[] {DefuncMl.K_VAR, name, 0};
    }

    static int[] op(int kind, int[] left, int[] right) {
        return join(kind, 0, 0, left, right);
    }

    static int[] add(int[] left, int[] right) {
        return op(DefuncMl.K_ADD, left, right);
    }

    static int[] sub(int[] left, int[] right) {
        return op(DefuncMl.K_SUB, left, right);
    }

    static int[] mul(int[] left, int[] right) {
        return op(DefuncMl.K_MUL, left, right);
    }

    static int[] div(int[] left, int[] right) {
        return op(DefuncMl.K_DIV, left, right);
    }

    static int[] lt(int[] left, int[] right) {
        return op(DefuncMl.K_LT, left, right);
    }

    static int[] eq(int[] left, int[] right) {
        return op(DefuncMl.K_EQ, left, right);
    }

    static int[] iff(int[] cond, int[] then, int[] otherwise) {
        return join(DefuncMl.K_IF, 0, 0, cond, then, otherwise);
    }

    static int[] pair(int[] first, int[] second) {
        return op(DefuncMl.K_PAIR, first, second);
    }

    static int[] fst(int[] operand) {
        return join(DefuncMl.K_FST, 0, 0, operand);
    }

    static int[] snd(int[] operand) {
        return join(DefuncMl.K_SND, 0, 0, operand);
    }

    static int[] fun(int x, int[] body) {
        return join(DefuncMl.K_FUN, x, 0, body);
    }

    static int[] let(int x, int[] e1, int[] e2) {
        return join(DefuncMl.K_LET, x, 0, e1, e2);
    }

    static int[] letrec(int f, int x, int[] e1, int[] e2) {
        return join(DefuncMl.K_LETREC, f, x, e1, e2);
    }

    static int[] app(int[] function, int[] argument) {
        return op(DefuncMl.K_APP, function, argument);
    }

    /** let rec f x = f x in f 0: stops at the depth, or at the budget. */
    static int[] deepLoop() {
        return letrec(0, 1, app(var(0), var(1)), app(var(0), num(0)));
    }

    /** Makes 255 applications, never more than 8 of them active. */
    static int[] wideLoop() {
        return treeLoop(7);
    }

    /**
     * let rec f x = if x then f (x - 1) + f (x - 1) else 0 in f n: makes 2^(n+1) - 1 applications,
     * n + 1 of them active at once, and spends one unit more than it makes applications.
     */
    static int[] treeLoop(int n) {
        int[] less = sub(var(1), num(1));
        int[] body = iff(var(1), add(app(var(0), less), app(var(0), less)), num(0));
        return letrec(0, 1, body, app(var(0), num(n)));
    }

    /** let rec f x = if x then f (x - 1) else 77 in f n: n + 1 applications, all active at once. */
    static int[] lineLoop(int n) {
        int[] call = app(var(0), sub(var(1), num(1)));
        return letrec(0, 1, iff(var(1), call, num(77)), app(var(0), num(n)));
    }

    /** The term as the first part of so many pairs, one around the other: a unit for each. */
    static int[] inPairs(int many, int[] term) {
        int[] whole = term;
        for (int i = 1; i <= many; i++) {
            whole = pair(whole, num(i));
        }
        return whole;
    }

    /** Functions around a number, so many nodes in all. */
    static int[] chain(int nodes) {
        int[] whole = num(5);
        for (int i = 1; i < nodes; i++) {
            whole = fun(i % 8, whole);
        }
        return whole;
    }

    private static int[] join(int kind, int a, int b, int[]... children) {
        int length = 3;
        for (int[] child : children) {
            length += child.length;
        }
        int[] joined = new int[length];
        joined[0] = kind;
        joined[1] = a;
        joined[2] = b;
        int at = 3;
        for (int[] child : children) {
            System.arraycopy(child, 0, joined, at, child.length);
            at += child.length;
        }
        return joined;
    }

    /** Gives the nodes one by one; answers the first refusal, or OK. */
    static int feed(DefuncMl x, int[] term) {
        for (int i = 0; i < term.length; i += 3) {
            int answer = x.node(term[i], term[i + 1], term[i + 2]);
            if (answer != DefuncMl.OK) {
                return answer;
            }
        }
        return DefuncMl.OK;
    }

    static DefuncMl fed(int budget, int maxDepth, int[] term) {
        DefuncMl x = new DefuncMl(budget, maxDepth);
        int answer = feed(x, term);
        if (answer != DefuncMl.OK) {
            throw new IllegalStateException("the test's own program is refused: " + answer);
        }
        return x;
    }

    static DefuncMl compiled(int budget, int maxDepth, int[] term) {
        DefuncMl x = fed(budget, maxDepth, term);
        int answer = x.compile();
        if (answer != DefuncMl.OK) {
            throw new IllegalStateException("the test's own program does not compile: " + answer);
        }
        return x;
    }
}
