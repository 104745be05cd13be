import java.util.Map;
import java.util.function.Supplier;

/** Promises 15 and 16. */
final class ResultBoundaries {
    private static final String KIND = "Promise 15";
    private static final String VALUE = "Promise 16";

    private static final int NONE = DefuncMl.KIND_NONE;
    private static final int INT = DefuncMl.KIND_INT;
    private static final int PAIR = DefuncMl.KIND_PAIR;
    private static final int FUN = DefuncMl.KIND_FUN;

    private static final int[] ZERO = Term.num(0);
    private static final int[] OUTSIDE_STEPS =
        {Edge.MIN, Edge.MIN + 1, -65536, -17, -16, -1, 17, 18, 31, 32, 33, 64, 256, Edge.MAX};

    private ResultBoundaries() {
    }

    private static DefuncMl ran(Check check, int[] term) {
        DefuncMl x = Term.compiled(64, 8, term);
        check.due("run", x.run(), DefuncMl.OK);
        return x;
    }

    /** Eighteen pairs, each the first part of the one before; the second parts are ints. */
    private static DefuncMl firstParts(Check check) {
        int[] eight = Term.fun(0, Term.inPairs(8, Term.var(0)));
        int[] inmost = Term.pair(Term.pair(Term.num(50), Term.num(51)), Term.num(52));
        int[] twice = Term.app(Term.var(1), Term.app(Term.var(1), inmost));
        return ran(check, Term.let(1, eight, twice));
    }

    /** Eighteen pairs, each the second part of the one before; the first parts are ints. */
    private static DefuncMl secondParts(Check check) {
        int[] eight = Term.var(0);
        for (int i = 1; i <= 8; i++) {
            eight = Term.pair(Term.num(i), eight);
        }
        int[] inmost = Term.pair(Term.num(52), Term.pair(Term.num(50), Term.num(51)));
        int[] twice = Term.app(Term.var(1), Term.app(Term.var(1), inmost));
        return ran(check, Term.let(1, Term.fun(0, eight), twice));
    }

    @Says(in = KIND, sentence = "resultKind(steps, path) looks inside the kept result.")
    static void looksInside(Check check) {
        DefuncMl x = ran(check, States.valueOfEachSort());
        check.due("whole", x.resultKind(0, 0), PAIR);
        check.due("first", x.resultKind(1, 0), PAIR);
        check.due("second", x.resultKind(1, 1), INT);
        check.due("first of first", x.resultKind(2, 0), INT);
        check.due("second of first", x.resultKind(2, 2), FUN);
    }

    @Says(in = KIND, sentence = "If steps is not in 0..16,")
    static void stepsOutside(Check check) {
        DefuncMl x = firstParts(check);
        DefuncMl y = secondParts(check);
        // Seventeen steps down there is still a pair, which must not be told.
        check.due("16 steps down", x.resultKind(16, 0), PAIR);
        check.due("16 steps down the other side", y.resultKind(16, -1), PAIR);
        for (int steps : OUTSIDE_STEPS) {
            check.result("first parts", x, steps, 0, NONE, 0);
            check.result("first parts", x, steps, 1, NONE, 0);
            check.result("second parts", y, steps, -1, NONE, 0);
        }
        DefuncMl z = ran(check, Term.num(5));
        for (int steps : OUTSIDE_STEPS) {
            check.result("an int", z, steps, 0, NONE, 0);
        }
    }

    @Says(in = KIND, sentence = "or there is no result, it answers KIND_NONE.")
    static void noResult(Check check) {
        for (Map.Entry<String, Supplier<DefuncMl>> state : States.all().entrySet()) {
            DefuncMl x = state.getValue().get();
            if (x.lastOutcome() != DefuncMl.OK) {
                for (int steps : Edge.INTS) {
                    check.due(state.getKey(), x.resultKind(steps, 0), NONE);
                    check.due(state.getKey(), x.resultKind(steps, -1), NONE);
                    check.due(state.getKey(), x.resultKind(0, steps), NONE);
                }
            }
        }
    }

    @Says(in = KIND, sentence = "Otherwise it starts at the result and, for i = 0..steps-1:")
    static void oneStepAtATime(Check check) {
        DefuncMl x = firstParts(check);
        DefuncMl y = secondParts(check);
        for (int steps = 0; steps <= 16; steps++) {
            check.due(steps + " steps", x.resultKind(steps, 0), PAIR);
            check.due(steps + " steps the other side", y.resultKind(steps, -1), PAIR);
        }
        for (int steps = 1; steps <= 16; steps++) {
            int last = steps - 1;
            check.result("aside after " + last, x, steps, 1 << last, INT, 8 - last % 8);
            check.result("aside after " + last, y, steps, (1 << last) - 1, INT, 8 - last % 8);
        }
    }

    @Says(in = KIND, sentence = "if the current value is not a pair, it answers KIND_NONE;")
    static void notAPair(Check check) {
        DefuncMl number = ran(check, Term.num(1));
        DefuncMl closure = ran(check, Term.fun(0, ZERO));
        DefuncMl pair = ran(check, Term.pair(Term.num(1), Term.fun(0, ZERO)));
        for (int steps = 1; steps <= 16; steps++) {
            for (int path : Edge.INTS) {
                check.result("int", number, steps, path, NONE, 0);
                check.result("closure", closure, steps, path, NONE, 0);
                check.result("pair", pair, steps + 1, path, NONE, 0);
            }
        }
        // What the same object held before must not be walked into.
        DefuncMl again = ran(check, Term.inPairs(15, ZERO));
        again.reset();
        Term.feed(again, Term.fun(0, ZERO));
        again.compile();
        again.run();
        check.result("closure after pairs", again, 0, 0, FUN, 0);
        check.result("closure after pairs", again, 1, 0, NONE, 0);
        check.result("closure after pairs", again, 1, 1, NONE, 0);
        DefuncMl deep = firstParts(check);
        for (int steps = 2; steps <= 16; steps++) {
            check.result("one too far", deep, steps, 1 << (steps - 2), NONE, 0);
        }
    }

    @Says(in = KIND, sentence = "otherwise it goes to the first part if bit i of path ((path >>> "
        + "i) & 1) is 0, and to the second part if it is 1.")
    static void bitsChooseParts(Check check) {
        // ((1, 2), (3, 4)): the lowest bit is the first step.
        DefuncMl x = ran(check, Term.pair(Term.pair(Term.num(1), Term.num(2)),
            Term.pair(Term.num(3), Term.num(4))));
        check.result("first, first", x, 2, 0, INT, 1);
        check.result("second, first", x, 2, 1, INT, 3);
        check.result("first, second", x, 2, 2, INT, 2);
        check.result("second, second", x, 2, 3, INT, 4);
        DefuncMl y = firstParts(check);
        check.result("bit 15 is 0", y, 16, 0x7FFF0000, PAIR, 0);
        check.result("bit 15 is 1", y, 16, 0x8000, INT, 1);
        DefuncMl z = secondParts(check);
        check.result("bit 15 is 1, the other side", z, 16, 0xFFFF, PAIR, 0);
        check.result("bit 15 is 0, the other side", z, 16, 0x7FFF, INT, 1);
    }

    @Says(in = KIND, sentence = "It answers the kind of the value reached: KIND_INT, KIND_PAIR or "
        + "KIND_FUN.")
    static void kindReached(Check check) {
        DefuncMl x = ran(check, Term.pair(Term.pair(Term.num(Edge.MIN), Term.fun(0, ZERO)),
            Term.letrec(0, 1, ZERO, Term.var(0))));
        check.due("int", x.resultKind(2, 0), INT);
        check.due("closure of a fun", x.resultKind(2, 2), FUN);
        check.due("closure of a letrec", x.resultKind(1, 1), FUN);
        check.due("pair", x.resultKind(1, 0), PAIR);
    }

    @Says(in = KIND, sentence = "With steps 0 it answers the kind of the result itself.")
    static void noSteps(Check check) {
        for (int path : Edge.INTS) {
            check.due("int", ran(check, Term.num(-1)).resultKind(0, path), INT);
            check.due("int 0", ran(check, ZERO).resultKind(0, path), INT);
            check.due("closure", ran(check, Term.fun(0, ZERO)).resultKind(0, path), FUN);
            check.due("pair", ran(check, Term.pair(ZERO, ZERO)).resultKind(0, path), PAIR);
        }
    }

    @Says(in = KIND, sentence = "Bits of path at or above steps play no part,")
    static void higherBits(Check check) {
        DefuncMl x = firstParts(check);
        for (int steps = 0; steps <= 16; steps++) {
            for (int bit = steps; bit <= 31; bit++) {
                check.result("bit " + bit + " of " + steps + " steps", x, steps, 1 << bit, PAIR, 0);
            }
            check.result("all bits from " + steps, x, steps, -1 << steps, PAIR, 0);
        }
        DefuncMl y = ran(check, Term.pair(Term.num(1), Term.num(2)));
        for (int path : Edge.INTS) {
            check.result("path " + path, y, 1, path, INT, path % 2 == 0 ? 1 : 2);
        }
    }

    @Says(in = KIND, sentence = "and path may be any int, negative ones included.")
    static void anyPath(Check check) {
        DefuncMl x = secondParts(check);
        check.result("-1", x, 16, -1, PAIR, 0);
        check.result("lowest int", x, 1, Edge.MIN, INT, 8);
        check.result("-2", x, 1, -2, INT, 8);
        check.result("-2, too far", x, 2, -2, NONE, 0);
        check.result("highest int", x, 16, Edge.MAX, PAIR, 0);
        check.result("all but bit 15", x, 16, ~0x8000, INT, 1);
    }

    /** Walks of all lengths, many paths. */
    private static void lookAround(DefuncMl x) {
        for (int steps = -1; steps <= 17; steps++) {
            for (int path : Edge.INTS) {
                x.resultKind(steps, path);
                x.resultValue(steps, path);
            }
        }
    }

    @Says(in = KIND, sentence = "Nothing changes.")
    static void kindLeavesNoTrace(Check check) {
        check.noTrace(States.all(), x -> {
            for (int steps : Edge.INTS) {
                for (int path : Edge.INTS) {
                    x.resultKind(steps, path);
                }
            }
        });
        check.alike("18 pairs", Questions.all(), () -> {
            DefuncMl x = firstParts(check);
            lookAround(x);
            return x;
        }, () -> firstParts(check));
    }

    @Says(in = VALUE, sentence = "resultValue(steps, path) makes the same walk as resultKind.")
    static void sameWalk(Check check) {
        DefuncMl x = firstParts(check);
        for (int steps = 1; steps <= 16; steps++) {
            int last = steps - 1;
            check.due("aside after " + last, x.resultValue(steps, 1 << last), 8 - last % 8);
            check.due("with higher bits", x.resultValue(steps, -1 << last), 8 - last % 8);
            check.due("on", x.resultValue(steps, -1 << steps), 0);
        }
        DefuncMl y = secondParts(check);
        for (int steps : OUTSIDE_STEPS) {
            check.due(steps + " steps", x.resultValue(steps, 0), 0);
            check.due(steps + " steps the other side", y.resultValue(steps, -1), 0);
            check.due(steps + " steps past an int", x.resultValue(steps, 0x8000), 0);
        }
        DefuncMl z = ran(check, Term.num(5));
        for (int steps : OUTSIDE_STEPS) {
            check.due(steps + " steps in an int", z.resultValue(steps, 0), 0);
        }
    }

    @Says(in = VALUE, sentence = "KIND_INT: the integer;")
    static void valueOfInt(Check check) {
        for (int value : Edge.INTS) {
            check.due("alone", ran(check, Term.num(value)).resultValue(0, 0), value);
            DefuncMl x = ran(check, Term.pair(Term.num(value), Term.num(~value)));
            check.due("first", x.resultValue(1, 0), value);
            check.due("second", x.resultValue(1, 1), ~value);
        }
    }

    @Says(in = VALUE, sentence = "KIND_FUN: the tag of the lambda whose evaluation made the "
        + "closure, which is in 0..lambdaCount()-1;")
    static void valueOfFun(Check check) {
        DefuncMl x = ran(check, Term.chain(32));
        check.result("the first of 31 tags", x, 0, 0, FUN, 0);
        // Ten closures in a row of pairs: the last has the last tag.
        int[] row = Term.fun(0, ZERO);
        for (int i = 0; i < 9; i++) {
            row = Term.pair(Term.fun(0, ZERO), row);
        }
        DefuncMl y = ran(check, row);
        check.result("the last of ten tags", y, 9, -1, FUN, y.lambdaCount() - 1);
        for (int tag = 0; tag < 9; tag++) {
            check.result("tag " + tag, y, tag + 1, (1 << tag) - 1, FUN, tag);
        }
        DefuncMl z = ran(check, Term.app(Term.fun(0, Term.fun(1, ZERO)), ZERO));
        check.result("made in a body", z, 0, 0, FUN, 1);
        DefuncMl same = ran(check, Term.app(Term.fun(0, Term.var(0)), Term.fun(1, ZERO)));
        check.result("handed through", same, 0, 0, FUN, 1);
    }

    @Says(in = VALUE, sentence = "KIND_PAIR or KIND_NONE: 0.")
    static void valueOfOthers(Check check) {
        DefuncMl x = ran(check, Term.pair(Term.pair(Term.num(3), Term.num(4)), Term.num(5)));
        check.due("pair", x.resultValue(0, 0), 0);
        check.due("inner pair", x.resultValue(1, 0), 0);
        check.due("past an int", x.resultValue(2, 1), 0);
        check.due("past an inner int", x.resultValue(3, 0), 0);
        DefuncMl y = ran(check, Term.fst(Term.pair(Term.fun(0, ZERO), Term.fun(1, ZERO))));
        check.due("past a closure", y.resultValue(1, 0), 0);
        // What the same object held before must not be told.
        DefuncMl again = ran(check, Term.pair(Term.fun(0, ZERO), Term.fun(1, ZERO)));
        again.reset();
        Term.feed(again, Term.inPairs(3, ZERO));
        again.compile();
        again.run();
        for (int steps = 0; steps < 3; steps++) {
            check.result("pairs after closures", again, steps, 0, PAIR, 0);
        }
        for (Map.Entry<String, Supplier<DefuncMl>> state : States.all().entrySet()) {
            DefuncMl z = state.getValue().get();
            if (z.lastOutcome() != DefuncMl.OK) {
                for (int steps : Edge.INTS) {
                    check.due(state.getKey(), z.resultValue(steps, 0), 0);
                    check.due(state.getKey(), z.resultValue(0, steps), 0);
                }
            }
        }
    }

    @Says(in = VALUE, sentence = "Nothing changes.")
    static void valueLeavesNoTrace(Check check) {
        check.noTrace(States.all(), x -> {
            for (int steps : Edge.INTS) {
                for (int path : Edge.INTS) {
                    x.resultValue(steps, path);
                }
            }
        });
        check.alike("18 pairs", Questions.all(), () -> {
            DefuncMl x = secondParts(check);
            lookAround(x);
            return x;
        }, () -> secondParts(check));
    }
}
