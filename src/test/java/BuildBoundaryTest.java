import java.util.ArrayList;
import java.util.List;

/** The boundary cases of promises 2 to 7: putting statements together. */
public final class BuildBoundaryTest extends BoundaryCases {
    private static void simpleArguments() {
        for (int op : new int[] {LEAST, -1, 11, 12, GREATEST}) {
            test("Promise 2: op not 0 to 10: " + op, x -> due("simple", x.simple(op, 0, 0), BAD_ARG));
        }
        for (int op : new int[] {SKIP, CALL}) {
            test("Promise 2: op 0 to 10: " + op, x -> due("simple", x.simple(op, 0, 0), 0));
        }
        for (int op = SET; op <= THROW; op++) {
            int code = op;
            for (int r : NO_REGISTERS) {
                test("Promise 2: op " + op + ", r not 0 to 3: " + r, x -> due("simple", x.simple(code, r, 0), BAD_ARG));
            }
            for (int r : new int[] {0, 3}) {
                test("Promise 2: op " + op + ", r 0 to 3: " + r, x -> due("simple", x.simple(code, r, 0), 0));
            }
        }
        for (int n : new int[] {LEAST, -101, 101, GREATEST}) {
            test("Promise 2: set, n not -100 to 100: " + n, x -> due("simple", x.simple(SET, 0, n), BAD_ARG));
        }
        for (int n : new int[] {-100, 0, 100}) {
            test("Promise 2: set, n -100 to 100: " + n, x -> {
                define(x, 0, set(2, n));
                x.load(2, 55);
                x.run(0);
                due("register", x.register(2), n);
            });
        }
        for (int op : new int[] {ADD, SUB, MUL, BREAK, GO_ON}) {
            for (int n : NO_REGISTERS) {
                test("Promise 2: op " + op + ", n not 0 to 3: " + n, x -> due("simple", x.simple(op, 0, n), BAD_ARG));
            }
            for (int n : new int[] {0, 3}) {
                test("Promise 2: op " + op + ", n 0 to 3: " + n, x -> due("simple", x.simple(op, 0, n), 0));
            }
        }
        for (int n : NO_PROCEDURES) {
            test("Promise 2: call, n not 0 to 2: " + n, x -> due("simple", x.simple(CALL, 0, n), BAD_ARG));
        }
        for (int n : new int[] {0, 2}) {
            test("Promise 2: call, n 0 to 2: " + n, x -> due("simple", x.simple(CALL, 0, n), 0));
        }
    }

    private static void simpleOfNoUse() {
        for (int op : new int[] {SKIP, BREAK, GO_ON, RETURN, CALL}) {
            test("Promise 2: an r that op " + op + " has no use for does not matter", x -> {
                for (int r : NO_REGISTERS) {
                    due("simple", x.simple(op, r, 0) >= 0, true);
                }
                x.discard();
                taken(x.simple(op, GREATEST, 0));
                taken(x.loop(0));
                due("procedure", x.procedure(0), 2);
                x.load(0, 1);
                due("run", x.run(0) >= DONE, true);
            });
        }
        for (int op : new int[] {SKIP, OUT, THROW, RETURN}) {
            test("Promise 2: an n that op " + op + " has no use for does not matter", x -> {
                for (int n : new int[] {LEAST, -101, -1, 4, 101, GREATEST}) {
                    due("simple", x.simple(op, 0, n) >= 0, true);
                }
                x.discard();
                taken(x.simple(op, 0, LEAST));
                due("procedure", x.procedure(0), 1);
                due("run", x.run(0), op == THROW ? THROWN : DONE);
                due("outs", x.outs(), op == OUT ? 1 : 0);
            });
        }
        test("Promise 2: r and n of no use do not matter either when FULL", x -> {
            push(x, 20);
            due("skip", x.simple(SKIP, 4, 999), FULL);
            due("out", x.simple(OUT, 3, 999), FULL);
            due("return", x.simple(RETURN, -1, -999), FULL);
            due("call", x.simple(CALL, -1, 2), FULL);
        });
    }

    /** Twenty statements made, one of them on the stack, with a break in too few whiles. */
    private static void badLoopOfTwenty(UnwindCode x) {
        seq(loop(0, skip()), leave(0)).put(x);
        for (int i = 0; i < 8; i++) {
            skip().put(x);
            taken(x.join(SEQ, 0));
        }
    }

    private static void simpleFull() {
        test("Promise 2: the 20th statement is made", x -> {
            push(x, 19);
            due("simple", x.simple(SKIP, 0, 0), 19);
            due("depth", x.depth(), 20);
        });
        test("Promise 2: 20 statements were made: FULL", x -> {
            push(x, 20);
            due("simple", x.simple(SKIP, 0, 0), FULL);
            due("depth", x.depth(), 20);
        });
        test("Promise 2: 20 statements were made, one of them on the stack: FULL", x -> {
            fillWithOne(x);
            due("depth", x.depth(), 1);
            due("simple", x.simple(SKIP, 0, 0), FULL);
        });
        test("Promise 2: emptied by discard: 20 more", x -> {
            push(x, 20);
            due("discard", x.discard(), 20);
            push(x, 20);
            due("simple", x.simple(SKIP, 0, 0), FULL);
        });
        test("Promise 2: emptied by procedure: 20 more", x -> {
            fillWithOne(x);
            due("procedure", x.procedure(0), 20);
            push(x, 20);
            due("simple", x.simple(SKIP, 0, 0), FULL);
        });
        test("Promise 2: not emptied by a refused procedure: still FULL", x -> {
            push(x, 20);
            due("procedure", x.procedure(0), TOO_FEW);
            due("simple", x.simple(SKIP, 0, 0), FULL);
            due("procedure", x.procedure(3), BAD_ARG);
            due("simple", x.simple(SKIP, 0, 0), FULL);
        });
        test("Promise 2: not emptied by a procedure refused for a bad loop: still FULL", x -> {
            badLoopOfTwenty(x);
            due("procedure", x.procedure(0), BAD_LOOP);
            due("simple", x.simple(SKIP, 0, 0), FULL);
        });
        test("Promise 2: not emptied by a run: still FULL", x -> {
            push(x, 20);
            x.run(0);
            due("simple", x.simple(SKIP, 0, 0), FULL);
        });
    }

    private static void simpleOrder() {
        test("Promise 2, order: op before r and n", x -> {
            due("op and r", x.simple(11, 4, 0), BAD_ARG);
            due("op and n", x.simple(-1, 0, 101), BAD_ARG);
            due("op, r and n", x.simple(11, 4, 101), BAD_ARG);
        });
        test("Promise 2, order: r before n", x -> {
            for (int op = SET; op <= MUL; op++) {
                due("r and n of op " + op, x.simple(op, 4, 101), BAD_ARG);
            }
        });
        test("Promise 2, order: op before FULL", x -> {
            push(x, 20);
            due("below", x.simple(-1, 0, 0), BAD_ARG);
            due("above", x.simple(11, 0, 0), BAD_ARG);
        });
        test("Promise 2, order: r before FULL", x -> {
            push(x, 20);
            for (int op = SET; op <= THROW; op++) {
                due("below, op " + op, x.simple(op, -1, 0), BAD_ARG);
                due("above, op " + op, x.simple(op, 4, 0), BAD_ARG);
            }
        });
        test("Promise 2, order: n before FULL", x -> {
            push(x, 20);
            due("set", x.simple(SET, 0, 101), BAD_ARG);
            due("set", x.simple(SET, 0, -101), BAD_ARG);
            for (int op : new int[] {ADD, SUB, MUL, BREAK, GO_ON}) {
                due("below, op " + op, x.simple(op, 0, -1), BAD_ARG);
                due("above, op " + op, x.simple(op, 0, 4), BAD_ARG);
            }
            due("call", x.simple(CALL, 0, -1), BAD_ARG);
            due("call", x.simple(CALL, 0, 3), BAD_ARG);
        });
        test("Promise 2, order: op, r and n before FULL", x -> {
            push(x, 20);
            due("all", x.simple(11, 4, 101), BAD_ARG);
            due("r and n", x.simple(SET, 4, 101), BAD_ARG);
        });
    }

    private static void loopEdges() {
        for (int r : NO_REGISTERS) {
            test("Promise 3: r not 0 to 3: " + r, x -> {
                push(x, 1);
                due("loop", x.loop(r), BAD_ARG);
            });
        }
        for (int r = 0; r <= 3; r++) {
            int register = r;
            test("Promise 3: r 0 to 3: " + r, x -> {
                push(x, 1);
                due("loop", x.loop(register), 1);
                due("procedure", x.procedure(0), 2);
                due("run", x.run(0), DONE);
                x.load(register, 1);
                due("run", x.run(0), TIRED);
            });
        }
        test("Promise 3: an empty stack answers TOO_FEW", x -> due("loop", x.loop(0), TOO_FEW));
        test("Promise 3: an empty stack answers TOO_FEW: after discard and after procedure", x -> {
            push(x, 2);
            x.discard();
            due("loop", x.loop(0), TOO_FEW);
            define(x, 0, skip());
            due("loop", x.loop(0), TOO_FEW);
        });
        test("Promise 3: one statement is enough, and only the top one is taken off", x -> {
            push(x, 1);
            due("loop", x.loop(0), 1);
            due("depth", x.depth(), 1);
            out(1).put(x);
            due("loop", x.loop(0), 3);
            due("depth", x.depth(), 2);
            due("discard", x.discard(), 2);
        });
        test("Promise 3: FULL as for simple: the 20th is made, the 21st not", x -> {
            push(x, 19);
            due("loop", x.loop(0), 19);
            due("loop", x.loop(0), FULL);
            due("depth", x.depth(), 19);
        });
        test("Promise 3, order: r before FULL", x -> {
            push(x, 20);
            due("below", x.loop(-1), BAD_ARG);
            due("above", x.loop(4), BAD_ARG);
        });
        test("Promise 3, order: r before TOO_FEW", x -> {
            due("below", x.loop(-1), BAD_ARG);
            due("above", x.loop(4), BAD_ARG);
        });
    }

    private static void joinEdges() {
        for (int op : new int[] {LEAST, -1, 4, GREATEST}) {
            test("Promise 4: op not 0 to 3: " + op, x -> {
                push(x, 2);
                due("join", x.join(op, 0), BAD_ARG);
            });
        }
        for (int op : new int[] {IF, CATCH}) {
            for (int r : NO_REGISTERS) {
                test("Promise 4: op " + op + ", r not 0 to 3: " + r, x -> {
                    push(x, 2);
                    due("join", x.join(op, r), BAD_ARG);
                });
            }
            for (int r : new int[] {0, 3}) {
                test("Promise 4: op " + op + ", r 0 to 3: " + r, x -> {
                    push(x, 2);
                    due("join", x.join(op, r), 2);
                });
            }
        }
        for (int op : new int[] {SEQ, LASTLY}) {
            for (int r : NO_REGISTERS) {
                test("Promise 4: op " + op + " has no use for r: " + r, x -> {
                    push(x, 2);
                    due("join", x.join(op, r), 2);
                    due("procedure", x.procedure(0), 3);
                    due("run", x.run(0), DONE);
                    due("steps", x.steps(), 3);
                });
            }
        }
        for (int op = SEQ; op <= LASTLY; op++) {
            int code = op;
            test("Promise 4: fewer than two statements, op " + op, x -> {
                due("join of none", x.join(code, 0), TOO_FEW);
                push(x, 1);
                due("join of one", x.join(code, 0), TOO_FEW);
                push(x, 1);
                due("join of two", x.join(code, 0), 2);
                due("join of the one that is left", x.join(code, 0), TOO_FEW);
            });
            test("Promise 4: FULL as for simple: the 20th is made, the 21st not, op " + op, x -> {
                push(x, 19);
                due("join", x.join(code, 0), 19);
                due("join", x.join(code, 0), FULL);
                due("depth", x.depth(), 18);
            });
        }
        test("Promise 4: A lies below B, and what lies below A stays", x -> {
            push(x, 1);
            out(1).put(x);
            out(2).put(x);
            due("join", x.join(SEQ, 0), 3);
            due("depth", x.depth(), 2);
            due("join", x.join(SEQ, 0), 4);
            x.procedure(0);
            load(x, 0, 5, 6);
            x.run(0);
            due("outs", outs(x), List.of(5, 6));
        });
    }

    private static void joinOrder() {
        test("Promise 4, order: op before r", x -> {
            push(x, 2);
            due("join", x.join(4, 4), BAD_ARG);
        });
        test("Promise 4, order: op before FULL", x -> {
            push(x, 20);
            due("below", x.join(-1, 0), BAD_ARG);
            due("above", x.join(4, 0), BAD_ARG);
        });
        test("Promise 4, order: r before FULL", x -> {
            push(x, 20);
            due("if", x.join(IF, 4), BAD_ARG);
            due("catch", x.join(CATCH, -1), BAD_ARG);
        });
        test("Promise 4, order: op before TOO_FEW", x -> {
            due("none", x.join(4, 0), BAD_ARG);
            push(x, 1);
            due("one", x.join(-1, 0), BAD_ARG);
        });
        test("Promise 4, order: r before TOO_FEW", x -> {
            due("none", x.join(IF, 4), BAD_ARG);
            push(x, 1);
            due("one", x.join(CATCH, -1), BAD_ARG);
        });
        test("Promise 4, order: FULL before TOO_FEW", x -> {
            fillWithOne(x);
            for (int op = SEQ; op <= LASTLY; op++) {
                due("op " + op, x.join(op, 0), FULL);
            }
        });
        test("Promise 4, order: op and r before FULL and TOO_FEW", x -> {
            fillWithOne(x);
            due("op", x.join(4, 0), BAD_ARG);
            due("r", x.join(IF, 4), BAD_ARG);
        });
        test("Promise 4, order: a seq or lastly with an r of no use is FULL or TOO_FEW", x -> {
            due("seq", x.join(SEQ, 4), TOO_FEW);
            due("lastly", x.join(LASTLY, -1), TOO_FEW);
            push(x, 20);
            due("seq", x.join(SEQ, 4), FULL);
            due("lastly", x.join(LASTLY, -1), FULL);
        });
    }

    private static void depthAndDiscard() {
        test("Promise 5: how many are on the stack: none, one, twenty", x -> {
            due("depth", x.depth(), 0);
            push(x, 1);
            due("depth", x.depth(), 1);
            push(x, 19);
            due("depth", x.depth(), 20);
        });
        test("Promise 5: statements that others are made of are not on the stack", x -> {
            push(x, 3);
            x.loop(0);
            due("depth", x.depth(), 3);
            x.join(SEQ, 0);
            due("depth", x.depth(), 2);
        });
        test("Promise 6: discard of an empty stack answers 0", x -> {
            due("discard", x.discard(), 0);
            due("discard", x.discard(), 0);
            due("depth", x.depth(), 0);
        });
        test("Promise 6: discard of a full stack answers 20", x -> {
            push(x, 20);
            due("discard", x.discard(), 20);
            due("depth", x.depth(), 0);
        });
        test("Promise 6: it answers how many there were, not how many were made", x -> {
            push(x, 3);
            x.join(SEQ, 0);
            due("discard", x.discard(), 2);
        });
        test("Promise 6: bodies and the last run stay", x -> {
            rich(x);
            String before = look(x);
            push(x, 20);
            x.discard();
            due("all", look(x), before);
            load(x, 5, 6, 7, -1);
            x.run(0);
            due("all", look(x), before);
        });
    }

    private static void procedureArguments() {
        for (int p : NO_PROCEDURES) {
            test("Promise 7: p not 0 to 2: " + p, x -> {
                push(x, 1);
                due("procedure", x.procedure(p), BAD_ARG);
            });
        }
        for (int p = 0; p <= 2; p++) {
            int body = p;
            test("Promise 7: p 0 to 2: " + p, x -> {
                out(1).put(x);
                due("procedure", x.procedure(body), 1);
                x.load(1, 4);
                x.run(body);
                due("outs", outs(x), List.of(4));
            });
        }
        for (int count : new int[] {0, 2, 3, 20}) {
            test("Promise 7: not just one statement: " + count, x -> {
                push(x, count);
                due("procedure", x.procedure(0), TOO_FEW);
                due("depth", x.depth(), count);
            });
        }
    }

    private static void bodies() {
        test("Promise 7: the least body has 1 statement, the greatest 20", x -> {
            push(x, 1);
            due("procedure", x.procedure(0), 1);
            fillWithOne(x);
            due("procedure", x.procedure(0), 20);
        });
        test("Promise 7: the stack is empty afterwards", x -> {
            define(x, 0, seq(skip(), skip()));
            due("depth", x.depth(), 0);
            due("procedure", x.procedure(1), TOO_FEW);
        });
        test("Promise 7: with all statements that it is made of and their numbers", x -> {
            define(x, 0, loop(0, seq(sub(0, 1), when(0, out(0), giveBack()))));
            load(x, 3, 1);
            x.run(0);
            List<Integer> begun = new ArrayList<>();
            for (int number = 0; number < 6; number++) {
                begun.add(x.begun(0, number));
            }
            due("begun", begun, List.of(3, 2, 1, 3, 3, 1));
            due("outs", outs(x), List.of(2, 1));
        });
        test("Promise 7: the numbers count refused and discarded ones as if they had not been", x -> {
            push(x, 5);
            x.discard();
            out(0).put(x);
            x.simple(11, 0, 0);
            raise(0).put(x);
            x.join(SEQ, 0);
            due("procedure", x.procedure(0), 3);
            x.run(0);
            due("begun", List.of(x.begun(0, 0), x.begun(0, 1), x.begun(0, 2)), List.of(1, 1, 1));
        });
        test("Promise 7: a body stays as it is when new statements are made", x -> {
            define(x, 0, seq(out(0), out(1)));
            load(x, 5, 6);
            raise(2).put(x);
            raise(2).put(x);
            x.join(LASTLY, 0);
            x.run(0);
            due("outs", outs(x), List.of(5, 6));
            due("procedure", x.procedure(1), 3);
            x.run(0);
            due("outs", outs(x), List.of(5, 6));
        });
        test("Promise 7: a new body takes the place of the old one, also in calls", x -> {
            define(x, 0, call(1));
            define(x, 1, seq(out(0), out(1)));
            load(x, 5, 6);
            x.run(0);
            due("outs", outs(x), List.of(5, 6));
            define(x, 1, out(1));
            x.run(0);
            due("outs", outs(x), List.of(6));
        });
    }

    private static Code inWhiles(int whiles, Code inside) {
        Code code = inside;
        for (int i = 0; i < whiles; i++) {
            code = loop(0, code);
        }
        return code;
    }

    private static void badLoopLevels() {
        for (int n = 0; n <= 3; n++) {
            int level = n;
            for (int op : new int[] {BREAK, GO_ON}) {
                String jump = (op == BREAK ? "break " : "go on ") + n;
                test("Promise 7: " + jump + " in fewer than n + 1 whiles", x -> {
                    for (int whiles = 0; whiles <= level; whiles++) {
                        inWhiles(whiles, simple(op, 0, level)).put(x);
                        due("in " + whiles, x.procedure(0), BAD_LOOP);
                        x.discard();
                    }
                });
                test("Promise 7: " + jump + " in n + 1 whiles and in more", x -> {
                    for (int whiles = level + 1; whiles <= 6; whiles++) {
                        inWhiles(whiles, simple(op, 0, level)).put(x);
                        due("in " + whiles, x.procedure(0), whiles + 1);
                    }
                });
            }
        }
        for (int op = SEQ; op <= LASTLY; op++) {
            int code = op;
            test("Promise 7: some break in it, in A of join " + op, x -> {
                loop(0, join(code, 0, leave(1), skip())).put(x);
                due("in one while", x.procedure(0), BAD_LOOP);
                x.loop(0);
                due("in two", x.procedure(0), 5);
            });
            test("Promise 7: some go on in it, in B of join " + op, x -> {
                loop(0, join(code, 0, skip(), goOn(1))).put(x);
                due("in one while", x.procedure(0), BAD_LOOP);
                x.loop(0);
                due("in two", x.procedure(0), 5);
            });
        }
    }

    private static void badLoopPlaces() {
        test("Promise 7: one bad break among good ones, wherever it stands", x -> {
            seq(leave(0), loop(0, leave(0))).put(x);
            due("before", x.procedure(0), BAD_LOOP);
            x.discard();
            seq(loop(0, leave(0)), leave(0)).put(x);
            due("behind", x.procedure(0), BAD_LOOP);
            x.discard();
            loop(0, seq(leave(0), leave(1))).put(x);
            due("beside", x.procedure(0), BAD_LOOP);
        });
        test("Promise 7: whiles beside it and inside others do not lie around it", x -> {
            loop(0, seq(loop(0, loop(0, skip())), leave(1))).put(x);
            due("beside", x.procedure(0), BAD_LOOP);
            x.discard();
            loop(0, seq(leave(1), loop(0, leave(1)))).put(x);
            due("one of two", x.procedure(0), BAD_LOOP);
        });
        test("Promise 7: whiles of it: not those around a call of it", x -> {
            define(x, 1, loop(0, call(0)));
            leave(0).put(x);
            due("procedure", x.procedure(0), BAD_LOOP);
        });
        test("Promise 7: a break of another procedure does not matter to one that calls it", x -> {
            define(x, 0, loop(0, leave(0)));
            call(0).put(x);
            due("procedure", x.procedure(1), 1);
        });
        test("Promise 7: statements from before the stack was emptied do not matter", x -> {
            inWhiles(2, leave(1)).put(x);
            x.discard();
            leave(0).put(x);
            due("procedure", x.procedure(0), BAD_LOOP);
            x.discard();
            push(x, 1);
            due("procedure", x.procedure(0), 1);
        });
        test("Promise 7: a body refused with BAD_LOOP can be put into a while", x -> {
            leave(0).put(x);
            due("procedure", x.procedure(0), BAD_LOOP);
            due("loop", x.loop(0), 1);
            due("procedure", x.procedure(0), 2);
        });
    }

    private static void procedureOrder() {
        test("Promise 7, order: p before TOO_FEW", x -> {
            due("none", x.procedure(3), BAD_ARG);
            push(x, 2);
            due("two", x.procedure(-1), BAD_ARG);
        });
        test("Promise 7, order: p before BAD_LOOP", x -> {
            leave(0).put(x);
            due("below", x.procedure(-1), BAD_ARG);
            due("above", x.procedure(3), BAD_ARG);
        });
        test("Promise 7, order: TOO_FEW before BAD_LOOP", x -> {
            leave(0).put(x);
            push(x, 1);
            due("below", x.procedure(0), TOO_FEW);
            x.discard();
            push(x, 1);
            goOn(3).put(x);
            due("on top", x.procedure(0), TOO_FEW);
        });
        test("Promise 7, order: p before TOO_FEW and BAD_LOOP", x -> {
            leave(0).put(x);
            leave(0).put(x);
            due("procedure", x.procedure(3), BAD_ARG);
        });
    }

    public static void main(String[] args) {
        simpleArguments();
        simpleOfNoUse();
        simpleFull();
        simpleOrder();
        loopEdges();
        joinEdges();
        joinOrder();
        depthAndDiscard();
        procedureArguments();
        bodies();
        badLoopLevels();
        badLoopPlaces();
        procedureOrder();
        tellAndExit();
    }
}
