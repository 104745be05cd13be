import java.util.ArrayList;
import java.util.HashMap;
import java.util.HashSet;
import java.util.List;
import java.util.Map;
import java.util.Set;

/**
 * The document told a second time, by recursion over trees and maps, so that it shares no way of
 * working with the class under test.
 */
final class Model {
    private record Tree(int index, int kind, int a, int b, List<Tree> children) {
        Tree child(int i) {
            return children.get(i);
        }

        boolean isLambda() {
            return kind == DefuncMl.K_FUN || kind == DefuncMl.K_LETREC;
        }

        /** The names that this node binds for its i-th child, outermost first. */
        List<Integer> bindsFor(int i) {
            switch (kind) {
                case DefuncMl.K_FUN:
                    return List.of(a);
                case DefuncMl.K_LET:
                    return i == 1 ? List.of(a) : List.of();
                case DefuncMl.K_LETREC:
                    return i == 0 ? List.of(a, b) : List.of(a);
                default:
                    return List.of();
            }
        }
    }

    private record PairValue(Object first, Object second) {
    }

    private record Closure(Tree lambda, Map<Integer, Object> bindings) {
    }

    private static final class Stop extends Exception {
        private static final long serialVersionUID = 1L;
        final int code;

        Stop(int code) {
            super(null, null, false, false);
            this.code = code;
        }
    }

    private final int budget;
    private final int maxDepth;
    private final List<int[]> nodes = new ArrayList<>();
    private boolean compiled;
    private Tree root;
    private final List<Tree> lambdas = new ArrayList<>();
    private int outcome = DefuncMl.NO_RESULT;
    private int units;
    private int active;
    private int peak;
    private Object result;

    Model(int budget, int maxDepth) {
        this.budget = Math.max(1, Math.min(64, budget));
        this.maxDepth = Math.max(1, Math.min(8, maxDepth));
    }

    void reset() {
        nodes.clear();
        compiled = false;
        root = null;
        lambdas.clear();
        outcome = DefuncMl.NO_RESULT;
        units = 0;
        peak = 0;
        result = null;
    }

    int node(int kind, int a, int b) {
        if (isComplete()) {
            return DefuncMl.ERR_COMPLETE;
        }
        if (nodes.size() == 32) {
            return DefuncMl.ERR_FULL;
        }
        if (kind < 1 || kind > 16) {
            return DefuncMl.ERR_KIND;
        }
        boolean usesA = Set.of(DefuncMl.K_VAR, DefuncMl.K_FUN, DefuncMl.K_LET, DefuncMl.K_LETREC)
            .contains(kind);
        if (usesA && (a < 0 || a > 7) || kind == DefuncMl.K_LETREC && (b < 0 || b > 7)) {
            return DefuncMl.ERR_NAME;
        }
        nodes.add(new int[] {kind, a, b});
        return DefuncMl.OK;
    }

    int nodeCount() {
        return nodes.size();
    }

    boolean isComplete() {
        return parse(new int[] {0}) != null;
    }

    /** The tree that starts at the cursor, or null if the nodes end before it does. */
    private Tree parse(int[] cursor) {
        int index = cursor[0];
        if (index >= nodes.size()) {
            return null;
        }
        cursor[0]++;
        int[] node = nodes.get(index);
        List<Tree> children = new ArrayList<>();
        for (int i = 0; i < arity(node[0]); i++) {
            Tree child = parse(cursor);
            if (child == null) {
                return null;
            }
            children.add(child);
        }
        return new Tree(index, node[0], node[1], node[2], children);
    }

    static int arity(int kind) {
        return switch (kind) {
            case DefuncMl.K_NUM, DefuncMl.K_VAR -> 0;
            case DefuncMl.K_FST, DefuncMl.K_SND, DefuncMl.K_FUN -> 1;
            case DefuncMl.K_IF -> 3;
            default -> 2;
        };
    }

    int compile() {
        if (compiled) {
            return DefuncMl.OK;
        }
        Tree tree = parse(new int[] {0});
        if (tree == null) {
            return DefuncMl.ERR_INCOMPLETE;
        }
        if (!inScope(tree, Set.of())) {
            return DefuncMl.ERR_SCOPE;
        }
        compiled = true;
        root = tree;
        collectLambdas(tree);
        return DefuncMl.OK;
    }

    private static boolean inScope(Tree tree, Set<Integer> names) {
        if (tree.kind() == DefuncMl.K_VAR) {
            return names.contains(tree.a());
        }
        for (int i = 0; i < tree.children().size(); i++) {
            Set<Integer> inner = new HashSet<>(names);
            inner.addAll(tree.bindsFor(i));
            if (!inScope(tree.child(i), inner)) {
                return false;
            }
        }
        return true;
    }

    private void collectLambdas(Tree tree) {
        if (tree.isLambda()) {
            lambdas.add(tree);
        }
        for (Tree child : tree.children()) {
            collectLambdas(child);
        }
    }

    boolean isCompiled() {
        return compiled;
    }

    int lambdaCount() {
        return lambdas.size();
    }

    int lambdaNode(int tag) {
        return tag >= 0 && tag < lambdas.size() ? lambdas.get(tag).index() : -1;
    }

    int freeVars(int tag) {
        if (tag < 0 || tag >= lambdas.size()) {
            return -1;
        }
        Tree lambda = lambdas.get(tag);
        return freeMask(lambda.child(0), new HashSet<>(lambda.bindsFor(0)));
    }

    private static int freeMask(Tree tree, Set<Integer> names) {
        if (tree.kind() == DefuncMl.K_VAR) {
            return names.contains(tree.a()) ? 0 : 1 << tree.a();
        }
        int mask = 0;
        for (int i = 0; i < tree.children().size(); i++) {
            Set<Integer> inner = new HashSet<>(names);
            inner.addAll(tree.bindsFor(i));
            mask |= freeMask(tree.child(i), inner);
        }
        return mask;
    }

    int run() {
        if (!compiled) {
            return DefuncMl.ERR_NOT_COMPILED;
        }
        result = null;
        units = 0;
        active = 0;
        peak = 0;
        try {
            result = eval(root, Map.of());
            outcome = DefuncMl.OK;
        } catch (Stop stop) {
            outcome = stop.code;
        }
        return outcome;
    }

    private void spend() throws Stop {
        if (units == budget) {
            throw new Stop(DefuncMl.ERR_BUDGET);
        }
        units++;
    }

    private static Map<Integer, Object> with(Map<Integer, Object> bindings, int name, Object value) {
        Map<Integer, Object> extended = new HashMap<>(bindings);
        extended.put(name, value);
        return extended;
    }

    private static int asInt(Object value) throws Stop {
        if (value instanceof Integer number) {
            return number;
        }
        throw new Stop(DefuncMl.ERR_NOT_INT);
    }

    private static PairValue asPair(Object value) throws Stop {
        if (value instanceof PairValue pair) {
            return pair;
        }
        throw new Stop(DefuncMl.ERR_NOT_PAIR);
    }

    private Object eval(Tree t, Map<Integer, Object> env) throws Stop {
        switch (t.kind()) {
            case DefuncMl.K_NUM:
                return t.a();
            case DefuncMl.K_VAR:
                return env.get(t.a());
            case DefuncMl.K_IF:
                return eval(t.child(asInt(eval(t.child(0), env)) != 0 ? 1 : 2), env);
            case DefuncMl.K_PAIR: {
                Object first = eval(t.child(0), env);
                Object second = eval(t.child(1), env);
                spend();
                return new PairValue(first, second);
            }
            case DefuncMl.K_FST:
                return asPair(eval(t.child(0), env)).first();
            case DefuncMl.K_SND:
                return asPair(eval(t.child(0), env)).second();
            case DefuncMl.K_FUN:
                spend();
                return new Closure(t, env);
            case DefuncMl.K_LET: {
                Object value = eval(t.child(0), env);
                spend();
                return eval(t.child(1), with(env, t.a(), value));
            }
            case DefuncMl.K_LETREC:
                spend();
                return eval(t.child(1), with(env, t.a(), new Closure(t, env)));
            case DefuncMl.K_APP: {
                Object function = eval(t.child(0), env);
                Object argument = eval(t.child(1), env);
                return apply(function, argument);
            }
            default: {
                Object left = eval(t.child(0), env);
                Object right = eval(t.child(1), env);
                return operate(t.kind(), asInt(left), asInt(right));
            }
        }
    }

    private Object apply(Object function, Object argument) throws Stop {
        if (!(function instanceof Closure closure)) {
            throw new Stop(DefuncMl.ERR_NOT_FUN);
        }
        if (units == budget) {
            throw new Stop(DefuncMl.ERR_BUDGET);
        }
        if (active == maxDepth) {
            throw new Stop(DefuncMl.ERR_DEPTH);
        }
        units++;
        active++;
        peak = Math.max(peak, active);
        Tree lambda = closure.lambda();
        Map<Integer, Object> env = closure.bindings();
        if (lambda.kind() == DefuncMl.K_LETREC) {
            env = with(with(env, lambda.a(), closure), lambda.b(), argument);
        } else {
            env = with(env, lambda.a(), argument);
        }
        Object value = eval(lambda.child(0), env);
        active--;
        return value;
    }

    private static int operate(int kind, int left, int right) throws Stop {
        switch (kind) {
            case DefuncMl.K_ADD:
                return left + right;
            case DefuncMl.K_SUB:
                return left - right;
            case DefuncMl.K_MUL:
                return left * right;
            case DefuncMl.K_DIV:
                if (right == 0) {
                    throw new Stop(DefuncMl.ERR_DIV);
                }
                return left / right;
            case DefuncMl.K_LT:
                return left < right ? 1 : 0;
            default:
                return left == right ? 1 : 0;
        }
    }

    int lastOutcome() {
        return outcome;
    }

    int unitsUsed() {
        return units;
    }

    int peakDepth() {
        return peak;
    }

    private Object walk(int steps, int path) {
        if (steps < 0 || steps > 16) {
            return null;
        }
        Object value = result;
        for (int i = 0; i < steps; i++) {
            if (!(value instanceof PairValue pair)) {
                return null;
            }
            value = (path >>> i & 1) == 0 ? pair.first() : pair.second();
        }
        return value;
    }

    int resultKind(int steps, int path) {
        Object value = walk(steps, path);
        if (value instanceof Integer) {
            return DefuncMl.KIND_INT;
        }
        if (value instanceof PairValue) {
            return DefuncMl.KIND_PAIR;
        }
        return value == null ? DefuncMl.KIND_NONE : DefuncMl.KIND_FUN;
    }

    int resultValue(int steps, int path) {
        Object value = walk(steps, path);
        if (value instanceof Integer number) {
            return number;
        }
        return value instanceof Closure closure ? lambdas.indexOf(closure.lambda()) : 0;
    }
}
