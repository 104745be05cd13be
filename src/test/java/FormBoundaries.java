/** The section "Program form". */
final class FormBoundaries {
    private static final int[] ZERO = Term.num(0);

    private FormBoundaries() {
    }

    @Says(in = "Program form", sentence = "A program is a tree of at most MAX_NODES nodes.")
    static void treeOfAtMost32(Check check) {
        DefuncMl x = new DefuncMl(64, 8);
        check.due("32 nodes are taken", Term.feed(x, Term.chain(32)), DefuncMl.OK);
        check.due("32 nodes compile", x.compile(), DefuncMl.OK);
        check.due("32 nodes run", x.run(), DefuncMl.OK);
        DefuncMl y = new DefuncMl(64, 8);
        check.due("33 nodes are refused", Term.feed(y, Term.chain(33)), DefuncMl.ERR_FULL);
        check.due("33 nodes do not compile", y.compile(), DefuncMl.ERR_INCOMPLETE);
    }

    @Says(in = "Program form", sentence = "The nodes are fed one per call to node(kind, a, b) in "
        + "prefix order: a node is given first, then its children, left to right, each with its "
        + "whole subtree.")
    static void prefixOrder(Check check) {
        DefuncMl x = new DefuncMl(64, 8);
        x.node(DefuncMl.K_SUB, 0, 0);
        x.node(DefuncMl.K_DIV, 0, 0);
        x.node(DefuncMl.K_NUM, 100, 0);
        x.node(DefuncMl.K_NUM, 7, 0);
        x.node(DefuncMl.K_IF, 0, 0);
        x.node(DefuncMl.K_LT, 0, 0);
        x.node(DefuncMl.K_NUM, 2, 0);
        x.node(DefuncMl.K_NUM, 1, 0);
        x.node(DefuncMl.K_NUM, 50, 0);
        x.node(DefuncMl.K_NUM, 3, 0);
        check.due("compile", x.compile(), DefuncMl.OK);
        check.due("run", x.run(), DefuncMl.OK);
        check.result("100 / 7 - (if 2 < 1 then 50 else 3)", x, 0, 0, DefuncMl.KIND_INT, 11);
    }

    @Says(in = "Program form", sentence = "Variable names are ints 0..7.")
    static void namesAre0To7(Check check) {
        int[] sum = Term.var(0);
        for (int name = 1; name <= 7; name++) {
            sum = Term.add(sum, Term.var(name));
        }
        for (int name = 0; name <= 7; name++) {
            sum = Term.let(name, Term.num(1 << name), sum);
        }
        check.gives("eight names at once", sum, 255);
        DefuncMl x = new DefuncMl(64, 8);
        check.due("name -1", x.node(DefuncMl.K_VAR, -1, 0), DefuncMl.ERR_NAME);
        check.due("name 8", x.node(DefuncMl.K_VAR, 8, 0), DefuncMl.ERR_NAME);
    }

    /** The tree is complete exactly when the node has got so many children. */
    private static void takes(Check check, int kind, int children) {
        DefuncMl x = new DefuncMl(64, 8);
        check.due("kind " + kind, x.node(kind, 0, 0), DefuncMl.OK);
        for (int child = 0; child < children; child++) {
            check.due("kind " + kind + " complete with " + child, x.isComplete(), false);
            check.due("kind " + kind + " child", x.node(DefuncMl.K_NUM, 0, 0), DefuncMl.OK);
        }
        check.due("kind " + kind + " complete with " + children, x.isComplete(), true);
        check.due("kind " + kind + " one more", x.node(DefuncMl.K_NUM, 0, 0),
            DefuncMl.ERR_COMPLETE);
    }

    @Says(in = "Program form", sentence = "K_NUM value - none integer constant a (any int)")
    static void rowNum(Check check) {
        takes(check, DefuncMl.K_NUM, 0);
        for (int value : Edge.INTS) {
            check.gives("constant " + value, Term.num(value), value);
        }
    }

    @Says(in = "Program form", sentence = "K_VAR name - none the value bound to name a")
    static void rowVar(Check check) {
        takes(check, DefuncMl.K_VAR, 0);
        check.gives("name 0", Term.let(0, Term.num(4), Term.let(7, ZERO, Term.var(0))), 4);
        check.gives("name 7", Term.let(7, Term.num(4), Term.let(0, ZERO, Term.var(7))), 4);
    }

    @Says(in = "Program form",
        sentence = "K_ADD, K_SUB, K_MUL, K_DIV, K_LT, K_EQ - - left, right binary operator")
    static void rowOperators(Check check) {
        int[] wants = {9, 5, 14, 3, 0, 0};
        for (int kind = DefuncMl.K_ADD; kind <= DefuncMl.K_EQ; kind++) {
            takes(check, kind, 2);
            check.gives("7 kind " + kind + " 2", Term.op(kind, Term.num(7), Term.num(2)),
                wants[kind - DefuncMl.K_ADD]);
        }
        check.gives("2 < 7", Term.lt(Term.num(2), Term.num(7)), 1);
        check.gives("7 == 7", Term.eq(Term.num(7), Term.num(7)), 1);
    }

    @Says(in = "Program form", sentence = "K_IF - - cond, then, else conditional")
    static void rowIf(Check check) {
        takes(check, DefuncMl.K_IF, 3);
        check.gives("cond 1", Term.iff(Term.num(1), Term.num(2), Term.num(3)), 2);
        check.gives("cond 0", Term.iff(ZERO, Term.num(2), Term.num(3)), 3);
    }

    @Says(in = "Program form", sentence = "K_PAIR - - first, second pair")
    static void rowPair(Check check) {
        takes(check, DefuncMl.K_PAIR, 2);
        DefuncMl x = Term.compiled(64, 8, Term.pair(Term.num(4), Term.num(5)));
        check.due("run", x.run(), DefuncMl.OK);
        check.result("first", x, 1, 0, DefuncMl.KIND_INT, 4);
        check.result("second", x, 1, 1, DefuncMl.KIND_INT, 5);
    }

    @Says(in = "Program form", sentence = "K_FST, K_SND - - operand first / second part")
    static void rowParts(Check check) {
        takes(check, DefuncMl.K_FST, 1);
        takes(check, DefuncMl.K_SND, 1);
        int[] pair = Term.pair(Term.num(4), Term.num(5));
        check.gives("first part", Term.fst(pair), 4);
        check.gives("second part", Term.snd(pair), 5);
    }

    @Says(in = "Program form", sentence = "K_FUN x - body fun x -> body")
    static void rowFun(Check check) {
        takes(check, DefuncMl.K_FUN, 1);
        check.gives("fun applied", Term.app(Term.fun(3, Term.var(3)), Term.num(8)), 8);
    }

    @Says(in = "Program form", sentence = "K_LET x - e1, e2 let x = e1 in e2")
    static void rowLet(Check check) {
        takes(check, DefuncMl.K_LET, 2);
        check.gives("let", Term.let(3, Term.num(8), Term.var(3)), 8);
    }

    @Says(in = "Program form", sentence = "K_LETREC f x e1, e2 let rec f x = e1 in e2")
    static void rowLetRec(Check check) {
        takes(check, DefuncMl.K_LETREC, 2);
        check.gives("let rec", Term.letrec(3, 4, Term.sub(Term.var(4), Term.num(1)),
            Term.app(Term.var(3), Term.num(8))), 7);
    }

    @Says(in = "Program form", sentence = "K_APP - - function, argument application")
    static void rowApp(Check check) {
        takes(check, DefuncMl.K_APP, 2);
        check.gives("application", Term.app(Term.fun(0, Term.num(6)), ZERO), 6);
    }

    @Says(in = "Program form", sentence = "Arguments marked - are ignored.")
    static void ignoredArguments(Check check) {
        int[] call = Term.app(Term.fun(2, Term.pair(Term.var(2), Term.num(9))), Term.num(4));
        int[] sum = Term.add(Term.fst(call), Term.mul(Term.num(3), Term.snd(call)));
        int[] term = Term.let(1, sum, Term.iff(Term.lt(ZERO, Term.var(1)),
            Term.div(Term.var(1), Term.num(2)), Term.sub(ZERO, Term.eq(ZERO, ZERO))));
        for (int odd : Edge.INTS) {
            int[] other = withIgnored(term, odd);
            check.gives("ignored arguments " + odd, other, 15);
        }
    }

    /** The same program, with the int wherever the table has a hyphen. */
    private static int[] withIgnored(int[] term, int odd) {
        int[] other = term.clone();
        for (int i = 0; i < term.length; i += 3) {
            int kind = term[i];
            boolean usesA = kind == DefuncMl.K_NUM || kind == DefuncMl.K_VAR
                || kind == DefuncMl.K_FUN || kind == DefuncMl.K_LET || kind == DefuncMl.K_LETREC;
            other[i + 1] = usesA ? term[i + 1] : odd;
            other[i + 2] = kind == DefuncMl.K_LETREC ? term[i + 2] : odd;
        }
        return other;
    }

    @Says(in = "Program form", sentence = "There is one open place at the start.")
    static void oneOpenPlace(Check check) {
        DefuncMl x = new DefuncMl(64, 8);
        check.due("complete at the start", x.isComplete(), false);
        check.due("a leaf", x.node(DefuncMl.K_NUM, 0, 0), DefuncMl.OK);
        check.due("complete with one leaf", x.isComplete(), true);
        check.due("a second leaf", x.node(DefuncMl.K_NUM, 0, 0), DefuncMl.ERR_COMPLETE);
    }

    @Says(in = "Program form",
        sentence = "Each node fills one open place and opens one new place per child.")
    static void placesPerNode(Check check) {
        int[] children = {0, 0, 2, 2, 2, 2, 2, 2, 3, 2, 1, 1, 1, 2, 2, 2};
        for (int kind = DefuncMl.K_NUM; kind <= DefuncMl.K_APP; kind++) {
            takes(check, kind, children[kind - 1]);
            // Two places stay open beside the kind's own.
            DefuncMl x = new DefuncMl(64, 8);
            x.node(DefuncMl.K_IF, 0, 0);
            x.node(kind, 0, 0);
            int leaves = children[kind - 1] + 2;
            for (int leaf = 0; leaf < leaves; leaf++) {
                check.due("kind " + kind + " in an if", x.isComplete(), false);
                x.node(DefuncMl.K_NUM, 0, 0);
            }
            check.due("kind " + kind + " in a whole if", x.isComplete(), true);
        }
    }

    @Says(in = "Program form",
        sentence = "The tree is complete when the last node given closes the last open place.")
    static void completeAtTheLastPlace(Check check) {
        int[][] terms = {Term.num(1), Term.chain(2), Term.chain(32), Term.treeLoop(1),
            States.valueOfEachSort(), Term.inPairs(15, ZERO)};
        for (int[] term : terms) {
            DefuncMl x = new DefuncMl(64, 8);
            for (int i = 0; i < term.length; i += 3) {
                check.due("complete before node " + i / 3, x.isComplete(), false);
                x.node(term[i], term[i + 1], term[i + 2]);
            }
            check.due("complete after the last node", x.isComplete(), true);
        }
    }
}
