/** Tests of the promises, one method for each, with the inputs, edges and refusals that the document names. */
public final class PromiseTest {
    private static final int SKIP = 0;
    private static final int SET = 1;
    private static final int ADD = 2;
    private static final int SUB = 3;
    private static final int MUL = 4;
    private static final int OUT = 5;
    private static final int THROW = 6;
    private static final int BREAK = 7;
    private static final int GO_ON = 8;
    private static final int RETURN = 9;
    private static final int CALL = 10;
    private static final int SEQ = 0;
    private static final int IF = 1;
    private static final int CATCH = 2;
    private static final int LASTLY = 3;
    private static final int[] FAR = {Integer.MIN_VALUE, -101, -1, 4, 11, 101, Integer.MAX_VALUE};

    private static int wrong = 0;
    private static String promise = "";

    private static void due(String what, int got, int want) {
        if (got != want) {
            wrong++;
            System.out.println(promise + ": " + what + " answered " + got + ", due is " + want);
        }
    }

    private static void outsDue(UnwindCode x, int... want) {
        due("outs()", x.outs(), want.length);
        for (int i = 0; i < want.length; i++) {
            due("out(" + i + ")", x.out(i), want[i]);
        }
        due("out behind the last", x.out(want.length), 0);
    }

    private static void noRunDue(UnwindCode x) {
        due("outcome()", x.outcome(), UnwindCode.NONE);
        due("thrown()", x.thrown(), 0);
        due("steps()", x.steps(), 0);
        due("deepest()", x.deepest(), 0);
        outsDue(x);
        for (int r = 0; r < 4; r++) {
            due("register(" + r + ")", x.register(r), 0);
        }
        for (int p = 0; p < 3; p++) {
            due("begun(" + p + ", 0)", x.begun(p, 0), 0);
        }
    }

    private static void push(UnwindCode x, int count) {
        for (int i = 0; i < count; i++) {
            x.simple(SKIP, 0, 0);
        }
    }

    /** Joins the two statements on top as seq. */
    private static void seq(UnwindCode x) {
        x.join(SEQ, 0);
    }

    private static void newObject() {
        UnwindCode x = new UnwindCode();
        due("depth()", x.depth(), 0);
        noRunDue(x);
        for (int p = 0; p < 3; p++) {
            due("begun(" + p + ", 1)", x.begun(p, 1), UnwindCode.BAD_ARG);
            due("run(" + p + ")", x.run(p), UnwindCode.DONE);
            due("steps()", x.steps(), 1);
            due("begun(" + p + ", 0)", x.begun(p, 0), 1);
            due("outs()", x.outs(), 0);
            for (int r = 0; r < 4; r++) {
                due("register(" + r + ")", x.register(r), 0);
            }
        }
    }

    private static void simpleRefuses() {
        UnwindCode x = new UnwindCode();
        for (int op : new int[] {Integer.MIN_VALUE, -1, 11, 12, Integer.MAX_VALUE}) {
            due("simple(" + op + ", 0, 0)", x.simple(op, 0, 0), UnwindCode.BAD_ARG);
        }
        for (int op = SET; op <= THROW; op++) {
            for (int r : FAR) {
                due("simple(" + op + ", " + r + ", 0)", x.simple(op, r, 0), UnwindCode.BAD_ARG);
            }
        }
        due("set of -101", x.simple(SET, 0, -101), UnwindCode.BAD_ARG);
        due("set of 101", x.simple(SET, 0, 101), UnwindCode.BAD_ARG);
        due("set of the least", x.simple(SET, 0, Integer.MIN_VALUE), UnwindCode.BAD_ARG);
        for (int op : new int[] {ADD, SUB, MUL, BREAK, GO_ON}) {
            for (int n : FAR) {
                due("simple(" + op + ", 0, " + n + ")", x.simple(op, 0, n), UnwindCode.BAD_ARG);
            }
        }
        for (int n : new int[] {-1, 3, 4, Integer.MIN_VALUE, Integer.MAX_VALUE}) {
            due("call of " + n, x.simple(CALL, 0, n), UnwindCode.BAD_ARG);
        }
        due("depth() after refusals", x.depth(), 0);
        due("the first number after refusals", x.simple(SKIP, 0, 0), 0);
    }

    private static void simpleTakes() {
        UnwindCode x = new UnwindCode();
        due("skip with far r and n", x.simple(SKIP, 99, -999), 0);
        due("return with far r and n", x.simple(RETURN, -5, 999), 1);
        due("out with far n", x.simple(OUT, 3, 999), 2);
        due("throw with far n", x.simple(THROW, 0, -999), 3);
        due("break with far r", x.simple(BREAK, 77, 3), 4);
        due("go on with far r", x.simple(GO_ON, -77, 3), 5);
        due("call with far r", x.simple(CALL, 77, 2), 6);
        due("set of -100", x.simple(SET, 3, -100), 7);
        due("set of 100", x.simple(SET, 0, 100), 8);
        due("add 3 3", x.simple(ADD, 3, 3), 9);
        due("sub 0 3", x.simple(SUB, 0, 3), 10);
        due("mul 3 0", x.simple(MUL, 3, 0), 11);
        due("call 0", x.simple(CALL, 0, 0), 12);
        due("break 0", x.simple(BREAK, 0, 0), 13);
        due("depth()", x.depth(), 14);
        for (int i = 14; i < 20; i++) {
            due("simple number " + i, x.simple(SKIP, 0, 0), i);
        }
        due("the 21st", x.simple(SKIP, 0, 0), UnwindCode.FULL);
        due("a bad op when full", x.simple(11, 0, 0), UnwindCode.BAD_ARG);
        due("a bad r when full", x.simple(OUT, 4, 0), UnwindCode.BAD_ARG);
        due("a bad n when full", x.simple(CALL, 0, 3), UnwindCode.BAD_ARG);
        due("depth()", x.depth(), 20);
        x.discard();
        due("the first after discard", x.simple(SKIP, 0, 0), 0);
    }

    private static void simpleDoes() {
        UnwindCode x = new UnwindCode();
        x.simple(ADD, 0, 1);
        x.simple(SUB, 1, 2);
        seq(x);
        x.simple(MUL, 2, 3);
        seq(x);
        x.simple(SET, 3, -100);
        seq(x);
        x.simple(OUT, 3, 0);
        seq(x);
        x.procedure(0);
        x.load(0, Integer.MAX_VALUE);
        x.load(1, 1);
        x.load(2, 65536);
        x.load(3, 65537);
        due("run(0)", x.run(0), UnwindCode.DONE);
        due("a sum that wraps", x.register(0), Integer.MIN_VALUE);
        due("a difference", x.register(1), -65535);
        due("a product that wraps", x.register(2), 65536);
        due("a set", x.register(3), -100);
        outsDue(x, -100);
        for (int op = ADD; op <= MUL; op++) {
            x.simple(op, 2, 2);
            x.procedure(0);
            x.load(2, 7);
            x.run(0);
            due("op " + op + " of 7 and itself", x.register(2), op == ADD ? 14 : op == SUB ? 0 : 49);
        }
    }

    private static void loopPromise() {
        UnwindCode x = new UnwindCode();
        for (int r : FAR) {
            due("loop(" + r + ") when empty", x.loop(r), UnwindCode.BAD_ARG);
        }
        due("loop(0) when empty", x.loop(0), UnwindCode.TOO_FEW);
        due("loop(3) when empty", x.loop(3), UnwindCode.TOO_FEW);
        push(x, 2);
        due("loop(3)", x.loop(3), 2);
        due("depth()", x.depth(), 2);
        push(x, 17);
        due("loop(0) when full", x.loop(0), UnwindCode.FULL);
        due("loop(4) when full", x.loop(4), UnwindCode.BAD_ARG);
        due("depth() after refusals", x.depth(), 19);
    }

    private static void loopRuns() {
        UnwindCode x = new UnwindCode();
        x.simple(OUT, 0, 0);
        x.simple(SUB, 0, 1);
        seq(x);
        x.loop(0);
        x.procedure(0);
        x.load(0, 3);
        x.load(1, 1);
        due("a counting loop", x.run(0), UnwindCode.DONE);
        outsDue(x, 3, 2, 1);
        due("steps()", x.steps(), 10);
        due("begun of the loop", x.begun(0, 3), 1);
        due("begun of its part", x.begun(0, 2), 3);
        x.load(0, 0);
        due("a loop with 0", x.run(0), UnwindCode.DONE);
        due("steps()", x.steps(), 1);
        x.load(0, -2);
        x.load(1, -1);
        x.run(0);
        outsDue(x, -2, -1);
        push(x, 1);
        x.loop(2);
        x.simple(OUT, 0, 0);
        seq(x);
        x.procedure(0);
        due("what comes after a loop with 0", x.run(0), UnwindCode.DONE);
        outsDue(x, -2);
    }

    /** Three loops around one jump; registers 1 to 3 are put out behind the inner, middle and outer loop. */
    private static UnwindCode jumpInThreeLoops(int op, int n) {
        UnwindCode x = new UnwindCode();
        x.simple(SUB, 0, 3);
        x.simple(op, 0, n);
        x.join(LASTLY, 0);
        x.loop(0);
        x.simple(OUT, 1, 0);
        seq(x);
        x.loop(0);
        x.simple(OUT, 2, 0);
        seq(x);
        x.loop(0);
        x.simple(OUT, 3, 0);
        seq(x);
        x.procedure(0);
        x.load(0, 2);
        x.load(1, 10);
        x.load(2, 20);
        x.load(3, 1);
        return x;
    }

    private static void leapsThroughLoops() {
        UnwindCode x = jumpInThreeLoops(BREAK, 0);
        due("break 0", x.run(0), UnwindCode.DONE);
        outsDue(x, 10, 10, 20, 1);
        x = jumpInThreeLoops(BREAK, 1);
        due("break 1", x.run(0), UnwindCode.DONE);
        outsDue(x, 20, 20, 1);
        x = jumpInThreeLoops(BREAK, 2);
        due("break 2", x.run(0), UnwindCode.DONE);
        outsDue(x, 1);
        due("register(0) after break 2", x.register(0), 1);
        x = jumpInThreeLoops(GO_ON, 0);
        due("go on 0", x.run(0), UnwindCode.DONE);
        outsDue(x, 10, 20, 1);
        x = jumpInThreeLoops(GO_ON, 1);
        due("go on 1", x.run(0), UnwindCode.DONE);
        outsDue(x, 20, 1);
        x = jumpInThreeLoops(GO_ON, 2);
        due("go on 2", x.run(0), UnwindCode.DONE);
        outsDue(x, 1);
        due("register(0) after go on 2", x.register(0), 0);
        x = jumpInThreeLoops(RETURN, 0);
        due("return out of loops", x.run(0), UnwindCode.DONE);
        outsDue(x);
        x = jumpInThreeLoops(THROW, 2);
        due("throw out of loops", x.run(0), UnwindCode.THROWN);
        due("thrown()", x.thrown(), 1);
        outsDue(x);
    }

    private static void joinPromise() {
        UnwindCode x = new UnwindCode();
        for (int op : new int[] {Integer.MIN_VALUE, -1, 4, 5, Integer.MAX_VALUE}) {
            due("join(" + op + ", 0)", x.join(op, 0), UnwindCode.BAD_ARG);
        }
        for (int r : FAR) {
            due("join(1, " + r + ")", x.join(IF, r), UnwindCode.BAD_ARG);
            due("join(2, " + r + ")", x.join(CATCH, r), UnwindCode.BAD_ARG);
            due("join(0, " + r + ") when empty", x.join(SEQ, r), UnwindCode.TOO_FEW);
            due("join(3, " + r + ") when empty", x.join(LASTLY, r), UnwindCode.TOO_FEW);
        }
        push(x, 1);
        for (int op = SEQ; op <= LASTLY; op++) {
            due("join(" + op + ", 3) of one", x.join(op, 3), UnwindCode.TOO_FEW);
        }
        push(x, 5);
        due("join(0, 99)", x.join(SEQ, 99), 6);
        due("join(1, 3)", x.join(IF, 3), 7);
        due("join(2, 0)", x.join(CATCH, 0), 8);
        due("join(3, -99)", x.join(LASTLY, -99), 9);
        due("depth()", x.depth(), 2);
        push(x, 10);
        due("join(0, 0) when full", x.join(SEQ, 0), UnwindCode.FULL);
        due("join(4, 0) when full", x.join(4, 0), UnwindCode.BAD_ARG);
        due("join(1, 4) when full", x.join(IF, 4), UnwindCode.BAD_ARG);
        due("depth() after refusals", x.depth(), 12);
        x.discard();
        push(x, 1);
        for (int i = 1; i < 20; i++) {
            x.loop(0);
        }
        due("FULL before TOO_FEW", x.join(SEQ, 0), UnwindCode.FULL);
    }

    private static void seqAndIf() {
        UnwindCode x = new UnwindCode();
        x.simple(OUT, 0, 0);
        x.simple(OUT, 1, 0);
        x.join(IF, 2);
        x.simple(RETURN, 0, 0);
        seq(x);
        x.simple(OUT, 3, 0);
        seq(x);
        x.procedure(0);
        x.load(0, 10);
        x.load(1, 11);
        due("if with 0", x.run(0), UnwindCode.DONE);
        outsDue(x, 11);
        x.load(2, -1);
        due("if with -1", x.run(0), UnwindCode.DONE);
        outsDue(x, 10);
        due("steps()", x.steps(), 5);
        due("begun of what return left out", x.begun(0, 5), 0);
    }

    private static void catches() {
        UnwindCode x = new UnwindCode();
        x.simple(THROW, 0, 0);
        x.simple(THROW, 1, 0);
        x.join(CATCH, 1);
        x.simple(OUT, 2, 0);
        x.join(CATCH, 2);
        x.procedure(0);
        x.load(0, 42);
        x.load(1, 5);
        due("a catch whose second part throws", x.run(0), UnwindCode.DONE);
        due("register(1)", x.register(1), 42);
        due("register(2)", x.register(2), 42);
        outsDue(x, 42);
        x.simple(RETURN, 0, 0);
        x.simple(OUT, 2, 0);
        x.join(CATCH, 2);
        x.procedure(0);
        due("a catch of a return", x.run(0), UnwindCode.DONE);
        outsDue(x);
        due("register(2) is left alone", x.register(2), 0);
        x.simple(BREAK, 0, 0);
        x.simple(OUT, 2, 0);
        x.join(CATCH, 2);
        x.loop(0);
        x.procedure(0);
        due("a catch of a break", x.run(0), UnwindCode.DONE);
        outsDue(x);
        due("steps()", x.steps(), 3);
    }

    private static void lastlies() {
        UnwindCode x = new UnwindCode();
        x.simple(THROW, 0, 0);
        x.simple(THROW, 1, 0);
        x.simple(OUT, 3, 0);
        x.join(CATCH, 3);
        x.join(LASTLY, 0);
        x.procedure(0);
        x.load(0, 7);
        x.load(1, 9);
        due("a lastly keeps what its first part threw", x.run(0), UnwindCode.THROWN);
        due("thrown()", x.thrown(), 7);
        outsDue(x, 9);
        x.simple(THROW, 0, 0);
        x.simple(THROW, 1, 0);
        x.join(LASTLY, 0);
        x.procedure(0);
        due("a lastly that throws itself", x.run(0), UnwindCode.THROWN);
        due("thrown()", x.thrown(), 9);
        x.simple(SKIP, 0, 0);
        x.simple(RETURN, 0, 0);
        x.join(LASTLY, 0);
        x.simple(OUT, 0, 0);
        seq(x);
        x.procedure(0);
        due("a lastly that returns", x.run(0), UnwindCode.DONE);
        outsDue(x);
        x.simple(RETURN, 0, 0);
        x.simple(OUT, 0, 0);
        x.join(LASTLY, 0);
        x.simple(OUT, 1, 0);
        x.join(LASTLY, 0);
        x.simple(OUT, 2, 0);
        seq(x);
        x.procedure(0);
        due("a return through two lastlies", x.run(0), UnwindCode.DONE);
        outsDue(x, 7, 9);
        x.simple(BREAK, 0, 1);
        x.simple(BREAK, 0, 0);
        x.loop(0);
        x.join(LASTLY, 0);
        x.loop(0);
        x.loop(0);
        x.procedure(0);
        due("a break kept over a loop with a break", x.run(0), UnwindCode.DONE);
        due("steps()", x.steps(), 6);
    }

    private static void depthAndDiscard() {
        UnwindCode x = new UnwindCode();
        due("discard() when empty", x.discard(), 0);
        push(x, 3);
        due("depth()", x.depth(), 3);
        x.join(SEQ, 0);
        due("depth()", x.depth(), 2);
        x.loop(0);
        due("depth()", x.depth(), 2);
        due("discard()", x.discard(), 2);
        due("depth()", x.depth(), 0);
        due("discard() again", x.discard(), 0);
        due("the first number after discard", x.simple(SKIP, 0, 0), 0);
        due("discard() of one", x.discard(), 1);
        push(x, 20);
        due("depth()", x.depth(), 20);
        due("discard() of twenty", x.discard(), 20);
        due("run(0) after discards", x.run(0), UnwindCode.DONE);
        due("steps()", x.steps(), 1);
    }

    private static void procedurePromise() {
        UnwindCode x = new UnwindCode();
        for (int p : new int[] {Integer.MIN_VALUE, -1, 3, 4, Integer.MAX_VALUE}) {
            due("procedure(" + p + ")", x.procedure(p), UnwindCode.BAD_ARG);
        }
        due("procedure(0) when empty", x.procedure(0), UnwindCode.TOO_FEW);
        x.simple(BREAK, 0, 0);
        due("procedure(3) with a bad loop", x.procedure(3), UnwindCode.BAD_ARG);
        x.simple(OUT, 1, 0);
        due("procedure(0) of two, TOO_FEW first", x.procedure(0), UnwindCode.TOO_FEW);
        due("join(0, 0)", x.join(SEQ, 0), 2);
        due("procedure(0)", x.procedure(0), UnwindCode.BAD_LOOP);
        due("depth() after BAD_LOOP", x.depth(), 1);
        due("begun(0, 1) after BAD_LOOP", x.begun(0, 1), UnwindCode.BAD_ARG);
        due("loop(0), the numbers go on", x.loop(0), 3);
        due("procedure(0)", x.procedure(0), 4);
        due("depth()", x.depth(), 0);
        due("the first number after procedure", x.simple(OUT, 2, 0), 0);
        due("procedure(2)", x.procedure(2), 1);
        x.load(1, 8);
        x.load(2, 9);
        x.run(2);
        outsDue(x, 9);
        due("run(1) is still skip", x.run(1), UnwindCode.DONE);
        outsDue(x);
        push(x, 1);
        for (int i = 1; i < 20; i++) {
            x.loop(0);
        }
        due("procedure(1) of twenty", x.procedure(1), 20);
        due("begun(1, 19)", x.begun(1, 19), 0);
        due("begun(1, 20)", x.begun(1, 20), UnwindCode.BAD_ARG);
        push(x, 1);
        due("a shorter body", x.procedure(1), 1);
        due("begun(1, 1)", x.begun(1, 1), UnwindCode.BAD_ARG);
    }

    private static void loopsAround() {
        for (int op = BREAK; op <= GO_ON; op++) {
            for (int n = 0; n <= 3; n++) {
                for (int loops = 0; loops <= 5; loops++) {
                    UnwindCode x = new UnwindCode();
                    x.simple(op, 0, n);
                    for (int i = 0; i < loops; i++) {
                        x.loop(0);
                    }
                    due("op " + op + " " + n + " in " + loops + " whiles", x.procedure(0),
                            loops < n + 1 ? UnwindCode.BAD_LOOP : loops + 1);
                }
            }
        }
        for (int op = SEQ; op <= LASTLY; op++) {
            for (int side = 0; side < 2; side++) {
                UnwindCode x = new UnwindCode();
                x.simple(side == 0 ? BREAK : SKIP, 0, 0);
                x.simple(side == 0 ? SKIP : GO_ON, 0, 0);
                x.join(op, 0);
                due("a jump in part " + side + " of join " + op, x.procedure(0), UnwindCode.BAD_LOOP);
                x.loop(0);
                due("the same in a while", x.procedure(0), 4);
            }
        }
        UnwindCode x = new UnwindCode();
        x.simple(BREAK, 0, 0);
        x.simple(SKIP, 0, 0);
        x.loop(0);
        seq(x);
        due("a while beside a break", x.procedure(0), UnwindCode.BAD_LOOP);
        x.discard();
        x.simple(BREAK, 0, 0);
        x.procedure(1);
        x.discard();
        x.simple(CALL, 0, 1);
        x.loop(0);
        due("a body that only calls", x.procedure(0), 2);
    }

    private static void loadPromise() {
        UnwindCode x = new UnwindCode();
        for (int r : FAR) {
            due("load(" + r + ", 5)", x.load(r, 5), UnwindCode.BAD_ARG);
        }
        due("load(0, least)", x.load(0, Integer.MIN_VALUE), 0);
        due("load(3, greatest)", x.load(3, Integer.MAX_VALUE), 0);
        due("register(0) before a run", x.register(0), 0);
        x.run(0);
        due("register(0)", x.register(0), Integer.MIN_VALUE);
        due("register(1)", x.register(1), 0);
        due("register(2)", x.register(2), 0);
        due("register(3)", x.register(3), Integer.MAX_VALUE);
        x.load(0, 4);
        due("register(0) is of the last run", x.register(0), Integer.MIN_VALUE);
        x.simple(SET, 0, 50);
        x.procedure(0);
        x.run(0);
        due("register(0)", x.register(0), 50);
        x.run(1);
        due("what was loaded outlives a run", x.register(0), 4);
    }

    private static void runPromise() {
        UnwindCode x = new UnwindCode();
        for (int p : new int[] {Integer.MIN_VALUE, -1, 3, Integer.MAX_VALUE}) {
            due("run(" + p + ")", x.run(p), UnwindCode.BAD_ARG);
        }
        noRunDue(x);
        x.simple(OUT, 0, 0);
        x.simple(THROW, 0, 0);
        seq(x);
        x.procedure(0);
        x.simple(CALL, 0, 0);
        x.procedure(1);
        x.load(0, 6);
        due("run(1)", x.run(1), UnwindCode.THROWN);
        x.load(0, 0);
        due("run(3)", x.run(3), UnwindCode.BAD_ARG);
        due("outcome()", x.outcome(), UnwindCode.THROWN);
        due("thrown()", x.thrown(), 6);
        due("register(0)", x.register(0), 6);
        due("steps()", x.steps(), 4);
        due("begun(0, 1)", x.begun(0, 1), 1);
        due("deepest()", x.deepest(), 1);
        outsDue(x, 6);
        due("run(2)", x.run(2), UnwindCode.DONE);
        due("outcome()", x.outcome(), UnwindCode.DONE);
        due("thrown()", x.thrown(), 0);
        due("register(0)", x.register(0), 0);
        due("steps()", x.steps(), 1);
        due("begun(0, 1)", x.begun(0, 1), 0);
        due("deepest()", x.deepest(), 0);
        outsDue(x);
    }

    private static void calls() {
        UnwindCode x = new UnwindCode();
        x.simple(RETURN, 0, 0);
        x.procedure(1);
        x.simple(CALL, 0, 1);
        x.simple(OUT, 0, 0);
        seq(x);
        x.procedure(0);
        x.load(0, 3);
        due("a return ends only its procedure", x.run(0), UnwindCode.DONE);
        outsDue(x, 3);
        x.simple(SET, 0, 44);
        x.simple(THROW, 0, 0);
        seq(x);
        x.procedure(1);
        x.simple(CALL, 0, 1);
        x.simple(OUT, 2, 0);
        x.join(CATCH, 2);
        x.procedure(0);
        due("a throw comes out of the call", x.run(0), UnwindCode.DONE);
        outsDue(x, 44);
        due("registers are shared", x.register(0), 44);
        x.load(1, 1);
        x.simple(CALL, 0, 1);
        x.loop(1);
        x.procedure(0);
        due("a throw out of a call in a loop", x.run(0), UnwindCode.THROWN);
        due("thrown()", x.thrown(), 44);
    }

    /** The greatest number of steps is tried with a body that needs exactly 299 + extra of them. */
    private static UnwindCode countingBody(int extra) {
        UnwindCode x = new UnwindCode();
        x.simple(SUB, 0, 1);
        x.loop(0);
        for (int i = 0; i < extra; i++) {
            x.simple(OUT, 1, 0);
            seq(x);
        }
        x.procedure(0);
        x.load(0, 298 - extra);
        x.load(1, 1);
        return x;
    }

    private static void tired() {
        UnwindCode x = countingBody(0);
        due("299 steps", x.run(0), UnwindCode.DONE);
        due("steps()", x.steps(), 299);
        x = countingBody(1);
        due("300 steps", x.run(0), UnwindCode.DONE);
        due("steps()", x.steps(), 300);
        outsDue(x, 1);
        x = countingBody(2);
        due("301 steps", x.run(0), UnwindCode.TIRED);
        due("outcome()", x.outcome(), UnwindCode.TIRED);
        due("steps()", x.steps(), 300);
        outsDue(x, 1);
        due("begun of the last", x.begun(0, 4), 0);
        due("thrown()", x.thrown(), 0);
        due("register(0)", x.register(0), 0);
        due("a run after it", x.run(1), UnwindCode.DONE);
        due("steps()", x.steps(), 1);
    }

    private static void tiredSkipsLastParts() {
        UnwindCode x = new UnwindCode();
        x.simple(OUT, 0, 0);
        x.loop(0);
        x.simple(OUT, 3, 0);
        x.join(LASTLY, 0);
        x.simple(OUT, 3, 0);
        x.join(CATCH, 3);
        x.procedure(0);
        x.load(0, 1);
        due("an endless loop", x.run(0), UnwindCode.TIRED);
        due("outs()", x.outs(), 297);
        due("out(296)", x.out(296), 1);
        due("out(297)", x.out(297), 0);
        due("begun of the last part", x.begun(0, 2), 0);
        due("begun of the catching part", x.begun(0, 4), 0);
        due("a run after it", x.run(1), UnwindCode.DONE);
        due("steps()", x.steps(), 1);
        due("begun(0, 0)", x.begun(0, 0), 0);
        outsDue(x);
    }

    private static void deep() {
        UnwindCode x = new UnwindCode();
        x.simple(CALL, 0, 0);
        x.simple(OUT, 0, 0);
        x.join(LASTLY, 0);
        x.simple(OUT, 0, 0);
        x.join(CATCH, 0);
        x.procedure(0);
        due("a body that calls itself", x.run(0), UnwindCode.DEEP);
        due("outcome()", x.outcome(), UnwindCode.DEEP);
        due("deepest()", x.deepest(), 8);
        due("steps()", x.steps(), 27);
        due("begun of the call", x.begun(0, 0), 9);
        due("thrown()", x.thrown(), 0);
        outsDue(x);
        x.simple(THROW, 0, 0);
        x.procedure(1);
        x.load(0, 12);
        due("a run after it", x.run(1), UnwindCode.THROWN);
        due("thrown()", x.thrown(), 12);
        due("steps()", x.steps(), 1);
        due("deepest()", x.deepest(), 0);
        due("begun(0, 0)", x.begun(0, 0), 0);
        outsDue(x);
    }

    /** Procedure 2 calls itself as often as register 0 says, and procedure 1 adds calls one after another. */
    private static UnwindCode callingBody() {
        UnwindCode x = new UnwindCode();
        x.simple(SUB, 0, 1);
        x.simple(CALL, 0, 2);
        seq(x);
        x.simple(SKIP, 0, 0);
        x.join(IF, 0);
        x.procedure(2);
        x.simple(CALL, 0, 0);
        x.simple(CALL, 0, 0);
        seq(x);
        x.procedure(1);
        x.load(1, 1);
        return x;
    }

    private static void deepestPromise() {
        UnwindCode x = callingBody();
        due("deepest() without a run", x.deepest(), 0);
        x.load(0, 8);
        due("eight calls in one another", x.run(2), UnwindCode.DONE);
        due("deepest()", x.deepest(), 8);
        x.load(0, 9);
        due("nine calls in one another", x.run(2), UnwindCode.DEEP);
        due("deepest()", x.deepest(), 8);
        due("register(0)", x.register(0), 0);
        x.load(0, 3);
        due("three calls in one another", x.run(2), UnwindCode.DONE);
        due("deepest()", x.deepest(), 3);
        due("calls one after another", x.run(1), UnwindCode.DONE);
        due("deepest()", x.deepest(), 1);
        due("begun(0, 0)", x.begun(0, 0), 2);
    }

    /** Calls end also by throwing and returning: many of them do not make a run deep. */
    private static void endedCallsDoNotCount() {
        for (int op : new int[] {THROW, RETURN}) {
            UnwindCode x = new UnwindCode();
            x.simple(op, 0, 0);
            x.procedure(1);
            x.simple(CALL, 0, 1);
            x.simple(SKIP, 0, 0);
            x.join(CATCH, 3);
            x.simple(SUB, 0, 1);
            seq(x);
            x.loop(0);
            x.procedure(0);
            x.load(0, 20);
            x.load(1, 1);
            due("twenty calls ended by op " + op, x.run(0), UnwindCode.DONE);
            due("deepest()", x.deepest(), 1);
        }
    }

    private static void tiredOrDeep() {
        UnwindCode x = new UnwindCode();
        x.simple(CALL, 0, 1);
        x.procedure(1);
        x.simple(SUB, 0, 1);
        x.loop(0);
        x.simple(CALL, 0, 1);
        seq(x);
        x.procedure(0);
        x.load(1, 1);
        x.load(0, 289);
        due("the ninth call in step 300", x.run(0), UnwindCode.DEEP);
        due("steps()", x.steps(), 300);
        due("deepest()", x.deepest(), 8);
        x.load(0, 290);
        due("the ninth call in step 301", x.run(0), UnwindCode.TIRED);
        due("steps()", x.steps(), 300);
        due("deepest()", x.deepest(), 8);
        due("begun(1, 0)", x.begun(1, 0), 7);
        x.load(0, 297);
        due("the first call in step 300", x.run(0), UnwindCode.TIRED);
        due("deepest()", x.deepest(), 1);
        due("begun(1, 0)", x.begun(1, 0), 0);
    }

    private static void outcomeAndThrown() {
        UnwindCode x = new UnwindCode();
        due("outcome()", x.outcome(), UnwindCode.NONE);
        due("thrown()", x.thrown(), 0);
        x.simple(THROW, 2, 0);
        x.procedure(0);
        x.load(2, Integer.MIN_VALUE);
        due("run(0)", x.run(0), UnwindCode.THROWN);
        due("outcome()", x.outcome(), UnwindCode.THROWN);
        due("thrown()", x.thrown(), Integer.MIN_VALUE);
        x.load(2, 0);
        due("run(0)", x.run(0), UnwindCode.THROWN);
        due("thrown()", x.thrown(), 0);
        x.simple(THROW, 2, 0);
        x.simple(SKIP, 0, 0);
        x.join(CATCH, 1);
        x.procedure(0);
        x.load(2, 5);
        due("run(0)", x.run(0), UnwindCode.DONE);
        due("thrown() after a caught one", x.thrown(), 0);
        x.simple(THROW, 2, 0);
        x.simple(SKIP, 0, 0);
        x.loop(2);
        x.join(LASTLY, 0);
        x.procedure(0);
        due("run(0)", x.run(0), UnwindCode.TIRED);
        due("thrown() after a tired run", x.thrown(), 0);
    }

    private static void registerPromise() {
        UnwindCode x = new UnwindCode();
        for (int r = 0; r < 4; r++) {
            x.load(r, r + 1);
            due("register(" + r + ") without a run", x.register(r), 0);
        }
        x.run(0);
        for (int r : FAR) {
            due("register(" + r + ")", x.register(r), 0);
        }
        for (int r = 0; r < 4; r++) {
            due("register(" + r + ")", x.register(r), r + 1);
        }
    }

    private static void begunPromise() {
        UnwindCode x = new UnwindCode();
        for (int p : new int[] {Integer.MIN_VALUE, -1, 3, Integer.MAX_VALUE}) {
            due("begun(" + p + ", 0) without a run", x.begun(p, 0), UnwindCode.BAD_ARG);
        }
        for (int number : new int[] {Integer.MIN_VALUE, -1, 1, 20, Integer.MAX_VALUE}) {
            due("begun(0, " + number + ") without a run", x.begun(0, number), UnwindCode.BAD_ARG);
        }
        due("begun(2, 0) without a run", x.begun(2, 0), 0);
        push(x, 2);
        seq(x);
        x.procedure(1);
        x.simple(CALL, 0, 1);
        x.simple(CALL, 0, 1);
        seq(x);
        x.procedure(0);
        x.run(0);
        for (int number = 0; number < 3; number++) {
            due("begun(0, " + number + ")", x.begun(0, number), 1);
            due("begun(1, " + number + ")", x.begun(1, number), 2);
        }
        due("begun(2, 0)", x.begun(2, 0), 0);
        due("begun(1, 3)", x.begun(1, 3), UnwindCode.BAD_ARG);
        push(x, 1);
        x.loop(0);
        due("begun(1, 1) before procedure", x.begun(1, 1), 2);
        x.procedure(1);
        due("begun(1, 0) of a later body", x.begun(1, 0), 0);
        due("begun(1, 1) of a later body", x.begun(1, 1), 0);
        due("begun(1, 2) is gone", x.begun(1, 2), UnwindCode.BAD_ARG);
        due("begun(0, 2) stays", x.begun(0, 2), 1);
        x.run(0);
        due("begun(1, 1) after a new run", x.begun(1, 1), 2);
        due("begun(1, 0) after a new run", x.begun(1, 0), 0);
        x.simple(BREAK, 0, 0);
        x.procedure(1);
        due("begun(1, 1) after a refused procedure", x.begun(1, 1), 2);
    }

    private static void outPromise() {
        UnwindCode x = new UnwindCode();
        due("out(0) without a run", x.out(0), 0);
        x.simple(OUT, 0, 0);
        x.simple(OUT, 1, 0);
        seq(x);
        x.procedure(0);
        x.load(0, 5);
        x.load(1, -6);
        x.run(0);
        outsDue(x, 5, -6);
        for (int i : new int[] {Integer.MIN_VALUE, -1, 2, 299, 300, 301, Integer.MAX_VALUE}) {
            due("out(" + i + ")", x.out(i), 0);
        }
        x.simple(OUT, 1, 0);
        x.procedure(0);
        outsDue(x, 5, -6);
        x.run(0);
        outsDue(x, -6);
    }

    public static void main(String[] args) {
        promise = "promise 1";
        newObject();
        promise = "promise 2";
        simpleRefuses();
        simpleTakes();
        simpleDoes();
        promise = "promise 3";
        loopPromise();
        loopRuns();
        leapsThroughLoops();
        promise = "promise 4";
        joinPromise();
        seqAndIf();
        catches();
        lastlies();
        promise = "promises 5 and 6";
        depthAndDiscard();
        promise = "promise 7";
        procedurePromise();
        loopsAround();
        promise = "promise 8";
        loadPromise();
        promise = "promise 9";
        runPromise();
        calls();
        deep();
        tiredOrDeep();
        endedCallsDoNotCount();
        promise = "promises 10 and 11";
        outcomeAndThrown();
        promise = "promise 12";
        registerPromise();
        promise = "promise 13";
        tired();
        tiredSkipsLastParts();
        promise = "promises 14 and 18";
        begunPromise();
        promise = "promises 15 and 16";
        outPromise();
        promise = "promise 17";
        deepestPromise();
        System.out.println(wrong == 0 ? "all answers are as due" : wrong + " answers are not as due");
        if (wrong != 0) {
            System.exit(1);
        }
    }
}
