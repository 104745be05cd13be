/** Compiles and runs one program of a small call-by-value language with closures and pairs. */
public final class DefuncMl {
    public static final int MAX_NODES = 32;
    public static final int K_NUM = 1;
    public static final int K_VAR = 2;
    public static final int K_ADD = 3;
    public static final int K_SUB = 4;
    public static final int K_MUL = 5;
    public static final int K_DIV = 6;
    public static final int K_LT = 7;
    public static final int K_EQ = 8;
    public static final int K_IF = 9;
    public static final int K_PAIR = 10;
    public static final int K_FST = 11;
    public static final int K_SND = 12;
    public static final int K_FUN = 13;
    public static final int K_LET = 14;
    public static final int K_LETREC = 15;
    public static final int K_APP = 16;

    public static final int OK = 0;
    public static final int ERR_COMPLETE = 1;
    public static final int ERR_FULL = 2;
    public static final int ERR_KIND = 3;
    public static final int ERR_NAME = 4;
    public static final int ERR_INCOMPLETE = 5;
    public static final int ERR_SCOPE = 6;
    public static final int ERR_NOT_COMPILED = 7;
    public static final int ERR_NOT_INT = 8;
    public static final int ERR_NOT_FUN = 9;
    public static final int ERR_NOT_PAIR = 10;
    public static final int ERR_DIV = 11;
    public static final int ERR_BUDGET = 12;
    public static final int ERR_DEPTH = 13;
    public static final int NO_RESULT = 14;

    public static final int KIND_NONE = 0;
    public static final int KIND_INT = 1;
    public static final int KIND_PAIR = 2;
    public static final int KIND_FUN = 3;

    private static final int NAMES = 8;
    private static final int MAX_BUDGET = 64;
    private static final int MAX_DEPTH = 8;
    private static final int MAX_WALK = 16;

    // Whatever a run makes (a pair, a closure, a set of bindings) is numbered by the unit that
    // paid for it, and no unit pays for two of one sort. Number 0 is the empty bindings.
    private static final int CELLS = MAX_BUDGET + 1;
    private static final int SLOTS = CELLS * NAMES;

    // Waiting nodes lie on one path down the tree for the root and one for each active
    // application's body, and a path has at most MAX_NODES nodes.
    private static final int STACK_SIZE = (MAX_DEPTH + 1) * MAX_NODES;

    // A run enters each node at most once for the root and once for each application, and resumes
    // it at most three times: fewer than 65 * 32 * 4 steps.
    private static final int MAX_STEPS = 1000000;

    // What a waiting node waits for.
    private static final int WAIT_FIRST = 0;
    private static final int WAIT_SECOND = 1;
    private static final int WAIT_BODY = 2;

    // A value is one long, its kind above its 32 bits of data: the int itself, or the number of
    // the pair or closure. Kind KIND_NONE is no value.
    private static final long NO_VALUE = 0L;
    private static final int KIND_SHIFT = 32;
    private static final long DATA_MASK = 0xFFFFFFFFL;

    private final int budget;
    private final int maxDepth;

    private final int[] nodeKind = new int[MAX_NODES];
    private final int[] nodeA = new int[MAX_NODES];
    private final int[] nodeB = new int[MAX_NODES];
    private int nodes;
    private int openPlaces;

    private boolean compiled;
    // The index just after a node's subtree, which is where its next sibling starts.
    private final int[] subtreeEnd = new int[MAX_NODES];
    private final int[] freeNames = new int[MAX_NODES];
    private final int[] nodeTag = new int[MAX_NODES];
    private final int[] tagNode = new int[MAX_NODES];
    private int lambdas;

    private int outcome;
    private int units;
    private int active;
    private int peak;
    private long result;

    private final long[] pairFirst = new long[CELLS];
    private final long[] pairSecond = new long[CELLS];
    private final int[] closureTag = new int[CELLS];
    private final int[] closureBindings = new int[CELLS];
    private final long[] bound = new long[SLOTS];

    private final int[] waitingNode = new int[STACK_SIZE];
    private final int[] waitingFor = new int[STACK_SIZE];
    private final int[] waitingBindings = new int[STACK_SIZE];
    private final long[] waitingFirst = new long[STACK_SIZE];
    private int waiting;

    // Either the run is about to enter currentNode, or it has just found currentValue.
    private boolean entering;
    private int currentNode;
    private int currentBindings;
    private long currentValue;

    public DefuncMl(int budget, int maxDepth) {
        this.budget = clamp(budget, MAX_BUDGET);
        this.maxDepth = clamp(maxDepth, MAX_DEPTH);
        reset();
    }

    public void reset() {
        nodes = 0;
        openPlaces = 1;
        compiled = false;
        lambdas = 0;
        outcome = NO_RESULT;
        units = 0;
        peak = 0;
        result = NO_VALUE;
    }

    public int node(int kind, int a, int b) {
        if (openPlaces == 0) {
            return ERR_COMPLETE;
        }
        if (nodes >= MAX_NODES) {
            return ERR_FULL;
        }
        if (kind < K_NUM || kind > K_APP) {
            return ERR_KIND;
        }
        if (hasBadName(kind, a, b)) {
            return ERR_NAME;
        }
        nodeKind[nodes] = kind;
        nodeA[nodes] = a;
        nodeB[nodes] = b;
        nodes++;
        openPlaces += childCount(kind) - 1;
        return OK;
    }

    public int nodeCount() {
        return nodes;
    }

    public boolean isComplete() {
        return openPlaces == 0;
    }

    public int compile() {
        if (compiled) {
            return OK;
        }
        if (openPlaces != 0) {
            return ERR_INCOMPLETE;
        }
        analyse();
        // A variable is out of scope exactly if its name occurs free in the whole program.
        if (freeNames[0] != 0) {
            return ERR_SCOPE;
        }
        giveTags();
        compiled = true;
        return OK;
    }

    public boolean isCompiled() {
        return compiled;
    }

    public int lambdaCount() {
        return lambdas;
    }

    public int lambdaNode(int tag) {
        if (tag < 0 || tag >= lambdas) {
            return -1;
        }
        return tagNode[tag];
    }

    public int freeVars(int tag) {
        if (tag < 0 || tag >= lambdas) {
            return -1;
        }
        return freeInLambda(tagNode[tag]);
    }

    public int run() {
        if (!compiled) {
            return ERR_NOT_COMPILED;
        }
        startRun();
        boolean ended = false;
        for (int step = 0; step < MAX_STEPS && !ended; step++) {
            outcome = entering ? enterNode() : resumeNode();
            ended = outcome != OK || (!entering && waiting == 0);
        }
        if (outcome == OK) {
            result = currentValue;
        }
        return outcome;
    }

    public int lastOutcome() {
        return outcome;
    }

    public int unitsUsed() {
        return units;
    }

    public int peakDepth() {
        return peak;
    }

    public int resultKind(int steps, int path) {
        long reached = walkResult(steps, path);
        return kindOf(reached);
    }

    public int resultValue(int steps, int path) {
        long reached = walkResult(steps, path);
        int kind = kindOf(reached);
        if (kind == KIND_INT) {
            return dataOf(reached);
        }
        if (kind == KIND_FUN) {
            return closureTag[dataOf(reached)];
        }
        return 0;
    }

    private static int clamp(int wanted, int most) {
        if (wanted < 1) {
            return 1;
        }
        return wanted > most ? most : wanted;
    }

    // ---- the tree ----

    private static boolean hasBadName(int kind, int a, int b) {
        switch (kind) {
            case K_VAR:
            case K_FUN:
            case K_LET:
                return !isName(a);
            case K_LETREC:
                return !isName(a) || !isName(b);
            default:
                return false;
        }
    }

    private static boolean isName(int name) {
        return name >= 0 && name < NAMES;
    }

    private static int childCount(int kind) {
        switch (kind) {
            case K_NUM:
            case K_VAR:
                return 0;
            case K_FST:
            case K_SND:
            case K_FUN:
                return 1;
            case K_IF:
                return 3;
            default:
                return 2;
        }
    }

    // The three below are asked only of complete trees and of nodes that have such a child, so
    // the child's index is below nodes.

    private static int firstChild(int node) {
        return node + 1;
    }

    private int secondChild(int node) {
        return subtreeEnd[node + 1];
    }

    private int thirdChild(int node) {
        return subtreeEnd[subtreeEnd[node + 1]];
    }

    // ---- compiling ----

    // Backwards, because a node's children have greater indices than the node.
    private void analyse() {
        for (int node = nodes - 1; node >= 0; node--) {
            measureSubtree(node);
            freeNames[node] = freeInNode(node);
        }
    }

    private void measureSubtree(int node) {
        int children = childCount(nodeKind[node]);
        int end = node + 1;
        for (int child = 0; child < children; child++) {
            end = subtreeEnd[end];
        }
        subtreeEnd[node] = end;
    }

    private int freeInNode(int node) {
        switch (nodeKind[node]) {
            case K_VAR:
                return 1 << nodeA[node];
            case K_FUN:
                return freeInLambda(node);
            case K_LET:
                return freeNames[firstChild(node)] | freeUnderBinding(node);
            case K_LETREC:
                return freeInLambda(node) | freeUnderBinding(node);
            default:
                return freeInChildren(node);
        }
    }

    private int freeInLambda(int node) {
        int hidden = 1 << nodeA[node];
        if (nodeKind[node] == K_LETREC) {
            hidden |= 1 << nodeB[node];
        }
        return freeNames[firstChild(node)] & ~hidden;
    }

    private int freeUnderBinding(int node) {
        return freeNames[secondChild(node)] & ~(1 << nodeA[node]);
    }

    private int freeInChildren(int node) {
        int children = childCount(nodeKind[node]);
        int names = 0;
        int start = node + 1;
        for (int child = 0; child < children; child++) {
            names |= freeNames[start];
            start = subtreeEnd[start];
        }
        return names;
    }

    private void giveTags() {
        lambdas = 0;
        for (int node = 0; node < nodes; node++) {
            if (nodeKind[node] == K_FUN || nodeKind[node] == K_LETREC) {
                nodeTag[node] = lambdas;
                tagNode[lambdas] = node;
                lambdas++;
            }
        }
    }

    // ---- running ----

    private void startRun() {
        result = NO_VALUE;
        units = 0;
        active = 0;
        peak = 0;
        waiting = 0;
        goTo(0, 0);
    }

    private void goTo(int node, int bindings) {
        currentNode = node;
        currentBindings = bindings;
        entering = true;
    }

    private void found(long value) {
        currentValue = value;
        entering = false;
    }

    private int enterNode() {
        int node = currentNode;
        switch (nodeKind[node]) {
            case K_NUM:
                long constant = valueOf(KIND_INT, nodeA[node]);
                found(constant);
                return OK;
            case K_VAR:
                found(bound[currentBindings * NAMES + nodeA[node]]);
                return OK;
            case K_FUN:
                return enterFun(node);
            case K_LETREC:
                return enterLetRec(node);
            default:
                return enterFirstChild(node);
        }
    }

    private int enterFun(int node) {
        int spent = spend();
        if (spent == OK) {
            long closure = makeClosure(node, currentBindings);
            found(closure);
        }
        return spent;
    }

    private int enterLetRec(int node) {
        int spent = spend();
        if (spent == OK) {
            long closure = makeClosure(node, currentBindings);
            copyBindings(currentBindings, units);
            bind(units, nodeA[node], closure);
            int next = secondChild(node);
            goTo(next, units);
        }
        return spent;
    }

    private int enterFirstChild(int node) {
        waitingNode[waiting] = node;
        waitingFor[waiting] = WAIT_FIRST;
        waitingBindings[waiting] = currentBindings;
        waiting++;
        int next = firstChild(node);
        goTo(next, currentBindings);
        return OK;
    }

    private int resumeNode() {
        int top = waiting - 1;
        int node = waitingNode[top];
        switch (nodeKind[node]) {
            case K_IF:
                return resumeIf(node);
            case K_FST:
            case K_SND:
                return resumePart(node);
            case K_LET:
                return resumeLet(node);
            case K_APP:
                return resumeApp(node);
            default:
                return resumeOperator(node);
        }
    }

    // A branch's value is the value of the K_IF, so the K_IF has nothing more to wait for.
    private int resumeIf(int node) {
        waiting--;
        if (kindOf(currentValue) != KIND_INT) {
            return ERR_NOT_INT;
        }
        int next = dataOf(currentValue) != 0 ? secondChild(node) : thirdChild(node);
        goTo(next, waitingBindings[waiting]);
        return OK;
    }

    private int resumePart(int node) {
        waiting--;
        if (kindOf(currentValue) != KIND_PAIR) {
            return ERR_NOT_PAIR;
        }
        int pair = dataOf(currentValue);
        found(nodeKind[node] == K_FST ? pairFirst[pair] : pairSecond[pair]);
        return OK;
    }

    private int resumeLet(int node) {
        waiting--;
        int spent = spend();
        if (spent == OK) {
            copyBindings(waitingBindings[waiting], units);
            bind(units, nodeA[node], currentValue);
            int next = secondChild(node);
            goTo(next, units);
        }
        return spent;
    }

    private int enterSecondChild(int node) {
        int top = waiting - 1;
        waitingFor[top] = WAIT_SECOND;
        waitingFirst[top] = currentValue;
        int next = secondChild(node);
        goTo(next, waitingBindings[top]);
        return OK;
    }

    private int resumeOperator(int node) {
        int top = waiting - 1;
        if (waitingFor[top] == WAIT_FIRST) {
            return enterSecondChild(node);
        }
        waiting--;
        if (nodeKind[node] == K_PAIR) {
            return makePair(waitingFirst[top], currentValue);
        }
        return operate(nodeKind[node], waitingFirst[top], currentValue);
    }

    private int resumeApp(int node) {
        int top = waiting - 1;
        if (waitingFor[top] == WAIT_FIRST) {
            return enterSecondChild(node);
        }
        if (waitingFor[top] == WAIT_SECOND) {
            waitingFor[top] = WAIT_BODY;
            return apply(waitingFirst[top], currentValue);
        }
        waiting--;
        active--;
        return OK;
    }

    private int apply(long function, long argument) {
        if (kindOf(function) != KIND_FUN) {
            return ERR_NOT_FUN;
        }
        if (units == budget) {
            return ERR_BUDGET;
        }
        if (active == maxDepth) {
            return ERR_DEPTH;
        }
        units++;
        active++;
        if (active > peak) {
            peak = active;
        }
        enterBody(function, argument);
        return OK;
    }

    private void enterBody(long function, long argument) {
        int closure = dataOf(function);
        int lambda = tagNode[closureTag[closure]];
        copyBindings(closureBindings[closure], units);
        // The argument is bound last: where f and x are one name, the name means the argument.
        if (nodeKind[lambda] == K_LETREC) {
            bind(units, nodeA[lambda], function);
            bind(units, nodeB[lambda], argument);
        } else {
            bind(units, nodeA[lambda], argument);
        }
        int body = firstChild(lambda);
        goTo(body, units);
    }

    private int operate(int kind, long first, long second) {
        if (kindOf(first) != KIND_INT || kindOf(second) != KIND_INT) {
            return ERR_NOT_INT;
        }
        int left = dataOf(first);
        int right = dataOf(second);
        int answer;
        switch (kind) {
            case K_ADD:
                answer = left + right;
                break;
            case K_SUB:
                answer = left - right;
                break;
            case K_MUL:
                answer = left * right;
                break;
            case K_DIV:
                if (right == 0) {
                    return ERR_DIV;
                }
                answer = left / right;
                break;
            case K_LT:
                answer = left < right ? 1 : 0;
                break;
            default:
                answer = left == right ? 1 : 0;
                break;
        }
        long value = valueOf(KIND_INT, answer);
        found(value);
        return OK;
    }

    // ---- what a run makes ----

    private int spend() {
        if (units == budget) {
            return ERR_BUDGET;
        }
        units++;
        return OK;
    }

    private int makePair(long first, long second) {
        int spent = spend();
        if (spent == OK) {
            pairFirst[units] = first;
            pairSecond[units] = second;
            long pair = valueOf(KIND_PAIR, units);
            found(pair);
        }
        return spent;
    }

    private long makeClosure(int lambda, int bindings) {
        closureTag[units] = nodeTag[lambda];
        closureBindings[units] = bindings;
        return valueOf(KIND_FUN, units);
    }

    private void copyBindings(int from, int to) {
        for (int name = 0; name < NAMES; name++) {
            bound[to * NAMES + name] = bound[from * NAMES + name];
        }
    }

    private void bind(int bindings, int name, long value) {
        bound[bindings * NAMES + name] = value;
    }

    // ---- values ----

    private static long valueOf(int kind, int data) {
        return ((long) kind << KIND_SHIFT) | (data & DATA_MASK);
    }

    private static int kindOf(long value) {
        return (int) (value >>> KIND_SHIFT);
    }

    private static int dataOf(long value) {
        return (int) value;
    }

    private long walkResult(int steps, int path) {
        if (steps < 0 || steps > MAX_WALK) {
            return NO_VALUE;
        }
        long value = result;
        for (int step = 0; step < steps; step++) {
            if (kindOf(value) != KIND_PAIR) {
                return NO_VALUE;
            }
            int pair = dataOf(value);
            value = ((path >>> step) & 1) == 0 ? pairFirst[pair] : pairSecond[pair];
        }
        return value;
    }
}
