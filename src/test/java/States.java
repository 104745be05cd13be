import java.util.LinkedHashMap;
import java.util.Map;
import java.util.function.Supplier;

/** Makers of objects, one for each state that the promises tell apart. */
final class States {
    private static final int[] ZERO = Term.num(0);

    private States() {
    }

    static Map<String, Supplier<DefuncMl>> all() {
        Map<String, Supplier<DefuncMl>> states = notCompiled();
        states.putAll(compiled());
        return states;
    }

    static Map<String, Supplier<DefuncMl>> notCompiled() {
        Map<String, Supplier<DefuncMl>> states = incomplete();
        states.putAll(outOfScope());
        states.put("complete", () -> Term.fed(64, 8, Term.fun(3, Term.var(3))));
        states.put("complete with 32 nodes", () -> Term.fed(64, 8, Term.chain(32)));
        return states;
    }

    static Map<String, Supplier<DefuncMl>> incomplete() {
        Map<String, Supplier<DefuncMl>> states = new LinkedHashMap<>();
        states.put("new", () -> new DefuncMl(64, 8));
        states.put("one open place", () -> row(1, DefuncMl.K_FUN));
        states.put("five open places", () -> row(2, DefuncMl.K_IF));
        states.put("a half application", States::halfApplication);
        states.put("full, one open place", () -> row(32, DefuncMl.K_FUN));
        states.put("full, many open places", () -> row(32, DefuncMl.K_IF));
        states.put("reset after a run", () -> {
            DefuncMl x = ran(valueOfEachSort());
            x.reset();
            return x;
        });
        return states;
    }

    static Map<String, Supplier<DefuncMl>> outOfScope() {
        Map<String, Supplier<DefuncMl>> states = new LinkedHashMap<>();
        states.put("out of scope", () -> Term.fed(64, 8, Term.fun(3, Term.var(4))));
        states.put("refused for its scope", () -> {
            DefuncMl x = Term.fed(64, 8, Term.let(5, Term.var(5), Term.fun(6, Term.var(6))));
            x.compile();
            return x;
        });
        return states;
    }

    static Map<String, Supplier<DefuncMl>> compiled() {
        Map<String, Supplier<DefuncMl>> states = new LinkedHashMap<>();
        states.put("compiled", () -> Term.compiled(64, 8, valueOfEachSort()));
        states.put("compiled without lambdas", () -> Term.compiled(64, 8, Term.num(4)));
        states.put("run", () -> ran(valueOfEachSort()));
        states.put("run with 64 units", () -> ran(Term.treeLoop(5)));
        states.put("run 8 deep", () -> ran(Term.lineLoop(7)));
        states.put("run into ERR_NOT_INT", () -> ran(Term.add(Term.pair(ZERO, ZERO), ZERO)));
        states.put("run into ERR_NOT_FUN", () -> ran(Term.app(ZERO, ZERO)));
        states.put("run into ERR_NOT_PAIR", () -> ran(Term.fst(ZERO)));
        states.put("run into ERR_DIV", () -> ran(Term.div(ZERO, ZERO)));
        states.put("run into ERR_BUDGET", () -> ran(Term.wideLoop()));
        states.put("run into ERR_DEPTH", () -> ran(Term.deepLoop()));
        return states;
    }

    /** Where every node is refused. */
    static Map<String, Supplier<DefuncMl>> withoutRoom() {
        Map<String, Supplier<DefuncMl>> states = all();
        states.keySet().removeAll(incomplete().keySet());
        states.put("full, one open place", () -> row(32, DefuncMl.K_FUN));
        states.put("full, many open places", () -> row(32, DefuncMl.K_IF));
        return states;
    }

    /** So many nodes of this kind. */
    static DefuncMl row(int many, int kind) {
        DefuncMl x = new DefuncMl(64, 8);
        for (int i = 0; i < many; i++) {
            x.node(kind, 0, 0);
        }
        return x;
    }

    private static DefuncMl halfApplication() {
        DefuncMl x = row(1, DefuncMl.K_APP);
        x.node(DefuncMl.K_FUN, 2, 0);
        x.node(DefuncMl.K_VAR, 2, 0);
        return x;
    }

    private static DefuncMl ran(int[] term) {
        DefuncMl x = Term.compiled(64, 8, term);
        x.run();
        return x;
    }

    /** let v5 = 5 in ((fun v0 -> (v0, fun v1 -> v5)) 7, 9): an int, a closure, pairs. */
    static int[] valueOfEachSort() {
        int[] inner = Term.fun(0, Term.pair(Term.var(0), Term.fun(1, Term.var(5))));
        return Term.let(5, Term.num(5), Term.pair(Term.app(inner, Term.num(7)), Term.num(9)));
    }
}
