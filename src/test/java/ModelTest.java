/** All promises at once: the class and the model get the same calls and must answer the same. */
public final class ModelTest {
    private static final int[] ODD =
        {Integer.MIN_VALUE, -2, -1, 0, 1, 7, 8, 16, 17, 31, 32, 64, 65, Integer.MAX_VALUE};

    private static final Check check = new Check();
    private static final Programs programs = new Programs(20261115L);
    private static final int[] seen = new int[DefuncMl.NO_RESULT + 1];

    public static void main(String[] args) {
        for (int i = 0; i < 30000; i++) {
            wholeProgram(i);
        }
        for (int i = 0; i < 400; i++) {
            anyCalls(i);
        }
        everyOutcomeWasSeen();
        check.end();
    }

    private static int limit(int most) {
        return programs.oneIn(10) ? ODD[programs.below(ODD.length)] : 1 + programs.below(most);
    }

    private static void wholeProgram(int number) {
        int budget = programs.oneIn(2) ? 64 : limit(64);
        int depth = programs.oneIn(2) ? 8 : limit(8);
        Twins twins = new Twins(check, "program " + number, budget, depth);
        twins.feed(programs.program());
        twins.compile();
        for (int i = 0; i < 2; i++) {
            int outcome = twins.run();
            seen[outcome]++;
            sameAll(twins);
        }
    }

    private static void sameAll(Twins twins) {
        twins.sameState();
        twins.sameResults(4);
        for (int steps = -1; steps <= 17; steps++) {
            twins.sameResult(steps, programs.below(1 << 16) - (1 << 15));
            twins.sameResult(steps, 0);
            twins.sameResult(steps, -1);
        }
    }

    /** One object through many programs, with refused and repeated calls in between. */
    private static void anyCalls(int number) {
        Twins twins = new Twins(check, "calls " + number, limit(64), limit(8));
        int[] term = programs.program();
        int at = 0;
        for (int i = 0; i < 150; i++) {
            switch (programs.below(12)) {
                case 0:
                    twins.compile();
                    break;
                case 1:
                    twins.run();
                    break;
                case 2:
                    oddNode(twins);
                    break;
                case 3:
                    if (programs.oneIn(4)) {
                        twins.reset();
                        term = programs.program();
                        at = 0;
                    }
                    break;
                default:
                    if (at < term.length) {
                        twins.node(term[at], term[at + 1], term[at + 2]);
                        at += 3;
                    }
                    break;
            }
            sameAll(twins);
        }
    }

    private static void oddNode(Twins twins) {
        int kind = programs.oneIn(2) ? ODD[programs.below(ODD.length)] : 1 + programs.below(16);
        int a = ODD[programs.below(ODD.length)];
        int b = ODD[programs.below(ODD.length)];
        twins.node(kind, a, b);
    }

    /** Else the programs would not say much. */
    private static void everyOutcomeWasSeen() {
        int[] outcomes = {DefuncMl.OK, DefuncMl.ERR_NOT_COMPILED, DefuncMl.ERR_NOT_INT,
            DefuncMl.ERR_NOT_FUN, DefuncMl.ERR_NOT_PAIR, DefuncMl.ERR_DIV, DefuncMl.ERR_BUDGET,
            DefuncMl.ERR_DEPTH};
        for (int outcome : outcomes) {
            check.due("outcome " + outcome + " seen often", seen[outcome] > 100, true);
        }
    }
}
