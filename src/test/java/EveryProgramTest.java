import java.util.Arrays;

/** All promises at once, on every program of a few nodes: the class against the model. */
public final class EveryProgramTest {
    /** Every kind, over two numbers and two names. */
    private static final int[][] ALL_KINDS = {
        {DefuncMl.K_NUM, 0, 0}, {DefuncMl.K_NUM, 3, 0}, {DefuncMl.K_VAR, 0, 0},
        {DefuncMl.K_VAR, 1, 0}, {DefuncMl.K_ADD, 0, 0}, {DefuncMl.K_SUB, 0, 0},
        {DefuncMl.K_MUL, 0, 0}, {DefuncMl.K_DIV, 0, 0}, {DefuncMl.K_LT, 0, 0},
        {DefuncMl.K_EQ, 0, 0}, {DefuncMl.K_IF, 0, 0}, {DefuncMl.K_PAIR, 0, 0},
        {DefuncMl.K_FST, 0, 0}, {DefuncMl.K_SND, 0, 0}, {DefuncMl.K_FUN, 0, 0},
        {DefuncMl.K_FUN, 1, 0}, {DefuncMl.K_LET, 0, 0}, {DefuncMl.K_LET, 1, 0},
        {DefuncMl.K_LETREC, 0, 0}, {DefuncMl.K_LETREC, 0, 1}, {DefuncMl.K_LETREC, 1, 0},
        {DefuncMl.K_LETREC, 1, 1}, {DefuncMl.K_APP, 0, 0}};

    /** Few kinds, so that the programs can be as long as a recursion needs. */
    private static final int[][] FUNCTIONS = {
        {DefuncMl.K_NUM, 3, 0}, {DefuncMl.K_VAR, 0, 0}, {DefuncMl.K_VAR, 1, 0},
        {DefuncMl.K_FUN, 1, 0}, {DefuncMl.K_FUN, 0, 0}, {DefuncMl.K_PAIR, 0, 0},
        {DefuncMl.K_LET, 0, 0}, {DefuncMl.K_LETREC, 0, 1}, {DefuncMl.K_LETREC, 1, 1},
        {DefuncMl.K_APP, 0, 0}};

    private static final int[][] LIMITS = {{64, 8}, {64, 1}, {3, 8}, {2, 1}, {1, 8}};

    private static final Check check = new Check();
    private static int programs = 0;
    private static int runs = 0;

    public static void main(String[] args) {
        everyProgram(ALL_KINDS, 5);
        everyProgram(FUNCTIONS, 7);
        check.due("programs were made: " + programs, programs > 100000, true);
        check.due("programs ran: " + runs, runs > 100000, true);
        check.end();
    }

    private static void everyProgram(int[][] nodes, int mostNodes) {
        extend(nodes, new int[3 * mostNodes], 0, 1);
    }

    /** Fills the open places behind the first nodes of the term in every way that fits. */
    private static void extend(int[][] nodes, int[] term, int filled, int open) {
        if (open == 0) {
            programs++;
            compare(Arrays.copyOf(term, filled));
            return;
        }
        for (int[] node : nodes) {
            int openThen = open - 1 + Model.arity(node[0]);
            if (filled + 3 + 3 * openThen <= term.length) {
                System.arraycopy(node, 0, term, filled, 3);
                extend(nodes, term, filled + 3, openThen);
            }
        }
    }

    private static void compare(int[] term) {
        String where = Arrays.toString(term);
        for (int[] limits : LIMITS) {
            Twins twins = new Twins(check, where, limits[0], limits[1]);
            twins.feed(term);
            int compiled = twins.compile();
            if (compiled != DefuncMl.OK) {
                twins.sameState();
                return;
            }
            twins.run();
            runs++;
            twins.sameState();
            twins.sameResults(2);
        }
    }
}
