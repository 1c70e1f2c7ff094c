import java.util.List;

/** The boundary cases of promises 1 and 8 to 18: a new object, runs, and what is told of the last run. */
public final class RunBoundaryTest extends BoundaryCases {
    private static void newObject() {
        for (int p = 0; p <= 2; p++) {
            int body = p;
            test("Promise 1: all bodies are skip: " + p, x -> {
                due("run", x.run(body), DONE);
                due("steps", x.steps(), 1);
                due("begun", x.begun(body, 0), 1);
                due("no more statements", x.begun(body, 1), BAD_ARG);
                due("outs", x.outs(), 0);
                due("deepest", x.deepest(), 0);
            });
        }
        test("Promise 1: the stack is empty", x -> {
            due("depth", x.depth(), 0);
            due("loop", x.loop(0), TOO_FEW);
            due("procedure", x.procedure(0), TOO_FEW);
            due("discard", x.discard(), 0);
        });
        test("Promise 1: all registers are loaded with 0", x -> {
            x.run(0);
            due("registers", registers(x), List.of(0, 0, 0, 0));
        });
        test("Promise 1: there was no run", x -> {
            due("outcome", x.outcome(), NONE);
            due("the rest", look(x),
                    "depth 0 outcome -4 thrown 0 registers [0, 0, 0, 0] steps 0 outs 0 of [0, 0, 0, 0]"
                            + " deepest 0 begun 0 -1; 0 -1; 0 -1;");
        });
        test("Promise 1: objects have nothing in common", x -> {
            UnwindCode other = new UnwindCode();
            rich(other);
            push(other, 3);
            due("depth", x.depth(), 0);
            due("outcome", x.outcome(), NONE);
            due("run", x.run(0), DONE);
            due("steps", x.steps(), 1);
            due("registers", registers(x), List.of(0, 0, 0, 0));
            due("outs of the other", outs(other), List.of(5, 6));
        });
    }

    private static void loadEdges() {
        for (int r : NO_REGISTERS) {
            test("Promise 8: r not 0 to 3: " + r, x -> due("load", x.load(r, 1), BAD_ARG));
        }
        for (int r = 0; r <= 3; r++) {
            int register = r;
            test("Promise 8: r 0 to 3, v any int: " + r, x -> {
                for (int v : new int[] {LEAST, -1, 0, 1, GREATEST}) {
                    due("load", x.load(register, v), 0);
                    x.run(0);
                    due("register", x.register(register), v);
                    due("another", x.register((register + 1) % 4), 0);
                }
            });
        }
        test("Promise 8: for the runs to come: not for the last one", x -> {
            x.load(0, 5);
            x.run(0);
            x.load(0, 6);
            due("register", x.register(0), 5);
        });
        test("Promise 8: for the runs to come: for all of them", x -> {
            define(x, 0, set(0, 9));
            x.load(0, 5);
            x.run(0);
            x.run(1);
            due("register", x.register(0), 5);
            x.run(2);
            due("register", x.register(0), 5);
        });
        test("Promise 8: the last load of a register counts", x -> {
            x.load(2, 5);
            x.load(2, 6);
            x.run(0);
            due("register", x.register(2), 6);
        });
    }

    private static void runEdges() {
        for (int p : NO_PROCEDURES) {
            test("Promise 9: p not 0 to 2, no run before: " + p, x -> {
                due("run", x.run(p), BAD_ARG);
                due("outcome", x.outcome(), NONE);
                due("steps", x.steps(), 0);
            });
            test("Promise 9: p not 0 to 2, the last run is remembered as before: " + p, x -> {
                rich(x);
                String before = look(x);
                due("run", x.run(p), BAD_ARG);
                due("all", look(x), before);
                due("outcome", x.outcome(), THROWN);
            });
        }
        test("Promise 9: otherwise how the run ends: each of the four", x -> {
            define(x, 0, when(0, raise(0), loop(1, skip())));
            define(x, 1, call(1));
            due("DONE", x.run(0), DONE);
            x.load(0, 1);
            due("THROWN", x.run(0), THROWN);
            load(x, 0, 1);
            due("TIRED", x.run(0), TIRED);
            due("DEEP", x.run(1), DEEP);
        });
        test("Promise 9: statements on the stack do not matter to a run, nor it to them", x -> {
            define(x, 0, out(0));
            raise(0).put(x);
            raise(0).put(x);
            due("run", x.run(0), DONE);
            due("depth", x.depth(), 2);
            due("join", x.join(SEQ, 0), 2);
            due("procedure", x.procedure(0), 3);
            due("run", x.run(0), THROWN);
        });
        test("Promise 9: the same run twice answers the same", x -> {
            rich(x);
            x.run(0);
            String before = look(x);
            x.run(0);
            due("all", look(x), before);
        });
    }

    private static void outcomeEdges() {
        test("Promise 10: NONE if there was none, whatever else was done", x -> {
            due("outcome", x.outcome(), NONE);
            define(x, 0, raise(0));
            x.load(0, 1);
            due("outcome", x.outcome(), NONE);
        });
        test("Promise 10: the last run, not an earlier one", x -> {
            define(x, 0, raise(0));
            x.run(0);
            due("outcome", x.outcome(), THROWN);
            x.run(1);
            due("outcome", x.outcome(), DONE);
        });
        test("Promise 10: a new body or load does not change how the last run ended", x -> {
            define(x, 0, raise(0));
            x.run(0);
            define(x, 0, skip());
            x.load(0, 4);
            due("outcome", x.outcome(), THROWN);
        });
    }

    private static void thrownEdges() {
        test("Promise 11: 0 if there was no run", x -> due("thrown", x.thrown(), 0));
        test("Promise 11: the number that was thrown: least, greatest, 0", x -> {
            define(x, 0, raise(3));
            for (int v : new int[] {LEAST, GREATEST, -1, 0}) {
                x.load(3, v);
                due("run", x.run(0), THROWN);
                due("thrown", x.thrown(), v);
            }
        });
        test("Promise 11: 0 if the last run is DONE, after a THROWN one and after a catch", x -> {
            define(x, 0, raise(0));
            x.load(0, 5);
            x.run(0);
            x.run(1);
            due("thrown", x.thrown(), 0);
            define(x, 0, guard(1, raise(0), skip()));
            x.run(0);
            due("thrown", x.thrown(), 0);
        });
        test("Promise 11: 0 if the last run is DONE by a return in a lastly", x -> {
            define(x, 0, lastly(raise(0), giveBack()));
            x.load(0, 5);
            due("run", x.run(0), DONE);
            due("thrown", x.thrown(), 0);
        });
        test("Promise 11: 0 if the last run is TIRED or DEEP while a number was on its way", x -> {
            define(x, 0, lastly(raise(0), loop(0, skip())));
            x.load(0, 5);
            due("run", x.run(0), TIRED);
            due("thrown", x.thrown(), 0);
            define(x, 0, lastly(raise(0), call(0)));
            due("run", x.run(0), DEEP);
            due("thrown", x.thrown(), 0);
        });
    }

    private static void registerEdges() {
        test("Promise 12: 0 if there was no run, though loaded", x -> {
            load(x, 1, 2, 3, 4);
            due("registers", registers(x), List.of(0, 0, 0, 0));
        });
        for (int r : NO_REGISTERS) {
            test("Promise 12: 0 if r is not 0 to 3: " + r, x -> {
                due("register without a run", x.register(r), 0);
                load(x, 1, 2, 3, 4);
                x.run(0);
                due("register", x.register(r), 0);
            });
        }
        test("Promise 12: at the end of a run, however it ended", x -> {
            define(x, 0, seq(set(0, 9), raise(0)));
            x.run(0);
            due("THROWN", x.register(0), 9);
            define(x, 0, seq(set(0, 8), loop(0, skip())));
            x.run(0);
            due("TIRED", x.register(0), 8);
            define(x, 0, seq(set(0, 7), call(0)));
            x.run(0);
            due("DEEP", x.register(0), 7);
        });
    }

    private static void stepsEdges() {
        test("Promise 13: 0 if there was no run", x -> {
            define(x, 0, seq(skip(), skip()));
            due("steps", x.steps(), 0);
        });
        test("Promise 13: the least is 1, the greatest 300", x -> {
            x.run(0);
            due("steps", x.steps(), 1);
            define(x, 0, loop(0, skip()));
            x.load(0, 1);
            x.run(0);
            due("steps", x.steps(), 300);
        });
        test("Promise 13: every statement that is begun is a step, calls and their bodies too", x -> {
            define(x, 1, seq(skip(), giveBack()));
            define(x, 0, lastly(guard(0, call(1), skip()), when(0, skip(), skip())));
            x.run(0);
            due("steps", x.steps(), 8);
        });
    }

    private static void begunRefuses() {
        for (int p : NO_PROCEDURES) {
            test("Promises 14 and 18: BAD_ARG if p is not 0 to 2, with and without a run: " + p, x -> {
                due("begun without a run", x.begun(p, 0), BAD_ARG);
                x.run(0);
                due("begun", x.begun(p, 0), BAD_ARG);
            });
        }
        for (int number : new int[] {LEAST, -1, 3, 20, GREATEST}) {
            test("Promises 14 and 18: BAD_ARG if there is no such statement, with and without a run: " + number, x -> {
                for (int p = 0; p <= 2; p++) {
                    define(x, p, seq(skip(), skip()));
                    due("begun without a run", x.begun(p, number), BAD_ARG);
                }
                x.run(0);
                for (int p = 0; p <= 2; p++) {
                    due("begun", x.begun(p, number), BAD_ARG);
                }
            });
        }
        test("Promises 1 and 14: a new object: each procedure has the one statement number 0", x -> {
            for (int p = 0; p <= 2; p++) {
                due("begun 0", x.begun(p, 0), 0);
                due("begun 1", x.begun(p, 1), BAD_ARG);
            }
        });
        test("Promise 14: 0 if there was no run", x -> {
            define(x, 0, seq(skip(), skip()));
            for (int number = 0; number < 3; number++) {
                due("begun " + number, x.begun(0, number), 0);
            }
        });
        test("Promise 18: BAD_ARG before all else: number 0 of a bad p, bad number of a good p", x -> {
            due("p", x.begun(3, 0), BAD_ARG);
            due("number", x.begun(0, 1), BAD_ARG);
            due("both", x.begun(-1, -1), BAD_ARG);
        });
        test("Promise 18: BAD_ARG before 'defined after the run'", x -> {
            x.run(0);
            define(x, 0, seq(skip(), skip()));
            due("begun 2", x.begun(0, 2), 0);
            due("begun 3", x.begun(0, 3), BAD_ARG);
        });
    }

    private static void begunCounts() {
        test("Promise 14: the greatest number there can be is 19", x -> {
            fillWithOne(x);
            x.procedure(2);
            due("begun 19", x.begun(2, 19), 0);
            due("begun 20", x.begun(2, 20), BAD_ARG);
            x.run(2);
            due("begun 19", x.begun(2, 19), 1);
            due("begun 18", x.begun(2, 18), 0);
            due("begun 20", x.begun(2, 20), BAD_ARG);
        });
        test("Promise 14: how often: 0 for what was left out, 299 for A of an endless while", x -> {
            define(x, 0, seq(loop(0, skip()), out(0)));
            x.load(0, 1);
            x.run(0);
            due("begun", List.of(x.begun(0, 0), x.begun(0, 1), x.begun(0, 2), x.begun(0, 3)), List.of(298, 1, 0, 1));
            define(x, 0, loop(0, skip()));
            x.run(0);
            due("begun of A", x.begun(0, 0), 299);
        });
        test("Promise 14: the last run, not an earlier one", x -> {
            x.run(0);
            x.run(1);
            due("begun", List.of(x.begun(0, 0), x.begun(1, 0), x.begun(2, 0)), List.of(0, 1, 0));
        });
    }

    private static void begunOfLaterBodies() {
        test("Promise 14: looked up in the procedure as it is now: a shorter body", x -> {
            define(x, 0, seq(skip(), skip()));
            x.run(0);
            define(x, 0, skip());
            due("begun 0", x.begun(0, 0), 0);
            due("begun 1", x.begun(0, 1), BAD_ARG);
            due("begun 2", x.begun(0, 2), BAD_ARG);
        });
        test("Promise 14: looked up in the procedure as it is now: a longer body", x -> {
            x.run(0);
            due("begun 1", x.begun(0, 1), BAD_ARG);
            define(x, 0, seq(skip(), skip()));
            for (int number = 0; number < 3; number++) {
                due("begun " + number, x.begun(0, number), 0);
            }
        });
        test("Promise 14: 0 if that was defined after the run, though with the same body", x -> {
            define(x, 0, skip());
            x.run(0);
            due("begun", x.begun(0, 0), 1);
            define(x, 0, skip());
            due("begun", x.begun(0, 0), 0);
            x.run(0);
            due("begun", x.begun(0, 0), 1);
        });
        test("Promise 14: the other procedures keep their counts when one is defined after the run", x -> {
            define(x, 1, call(2));
            define(x, 0, call(1));
            x.run(0);
            define(x, 1, skip());
            due("begun", List.of(x.begun(0, 0), x.begun(1, 0), x.begun(2, 0)), List.of(1, 0, 1));
        });
        test("Promise 14: a refused definition after the run is none", x -> {
            x.run(0);
            leave(0).put(x);
            due("procedure", x.procedure(0), BAD_LOOP);
            due("begun", x.begun(0, 0), 1);
            push(x, 1);
            due("procedure", x.procedure(0), TOO_FEW);
            due("begun", x.begun(0, 0), 1);
        });
        test("Promise 14: a refused run after the definition is none", x -> {
            x.run(0);
            define(x, 0, skip());
            x.run(3);
            due("begun", x.begun(0, 0), 0);
        });
    }

    private static void outEdges() {
        test("Promise 15: 0 if there was no run", x -> {
            define(x, 0, out(0));
            due("outs", x.outs(), 0);
        });
        test("Promise 15: the last run, not an earlier one, and not both", x -> {
            define(x, 0, seq(out(0), out(0)));
            x.run(0);
            x.run(0);
            due("outs", x.outs(), 2);
            x.run(1);
            due("outs", x.outs(), 0);
        });
        test("Promise 15: as many as steps allow", x -> {
            define(x, 0, loop(0, out(0)));
            x.load(0, 7);
            due("run", x.run(0), TIRED);
            due("outs", x.outs(), 299);
            due("out 298", x.out(298), 7);
            due("out 299", x.out(299), 0);
        });
        test("Promise 15: what was put out stays so, however the run ended", x -> {
            define(x, 0, seq(out(0), raise(0)));
            x.load(0, 5);
            x.run(0);
            due("THROWN", outs(x), List.of(5));
            define(x, 0, seq(out(0), call(0)));
            x.run(0);
            due("DEEP", outs(x), List.of(5, 5, 5, 5, 5, 5, 5, 5, 5));
        });
        test("Promise 16: 0 if there is none: no run", x -> {
            for (int i : new int[] {LEAST, -1, 0, 1, GREATEST}) {
                due("out " + i, x.out(i), 0);
            }
        });
        for (int i : new int[] {LEAST, -1, 2, 3, 299, 300, 301, GREATEST}) {
            test("Promise 16: 0 if there is none: two were put out, i is " + i, x -> {
                define(x, 0, seq(out(0), out(1)));
                load(x, 5, 6);
                x.run(0);
                due("out", x.out(i), 0);
            });
        }
        test("Promise 16: 0 the first", x -> {
            define(x, 0, seq(out(0), out(1)));
            load(x, 5, 6);
            x.run(0);
            due("out 0", x.out(0), 5);
            due("out 1", x.out(1), 6);
        });
        test("Promise 16: 0 if there is none: an earlier run put out more", x -> {
            define(x, 0, seq(out(0), out(1)));
            define(x, 1, out(1));
            load(x, 5, 6);
            x.run(0);
            x.run(1);
            due("out 0", x.out(0), 6);
            due("out 1", x.out(1), 0);
            x.run(2);
            due("out 0", x.out(0), 0);
        });
        test("Promise 16: the number as it was when it was put out", x -> {
            define(x, 0, seq(out(0), seq(set(0, 9), out(0))));
            x.load(0, 5);
            x.run(0);
            due("outs", outs(x), List.of(5, 9));
        });
    }

    private static void deepestEdges() {
        test("Promise 17: 0 if there was no run", x -> {
            define(x, 0, call(1));
            due("deepest", x.deepest(), 0);
        });
        test("Promise 17: a run without calls: its own procedure is not called", x -> {
            x.run(0);
            due("deepest", x.deepest(), 0);
        });
        for (int calls = 1; calls <= 8; calls++) {
            int nested = calls;
            test("Promise 17: calls inside one another: " + calls, x -> {
                nestedCalls(x, nested);
                x.run(2);
                due("deepest", x.deepest(), nested);
            });
        }
        test("Promise 17: at one time: calls one after another are not added", x -> {
            define(x, 0, seq(call(1), seq(call(1), call(1))));
            x.run(0);
            due("deepest", x.deepest(), 1);
        });
        test("Promise 17: the greatest number, though fewer are open later", x -> {
            nestedCalls(x, 3);
            define(x, 0, seq(call(2), call(1)));
            x.run(0);
            due("deepest", x.deepest(), 4);
        });
        test("Promise 17: the greatest number, though fewer were open before", x -> {
            nestedCalls(x, 3);
            define(x, 0, seq(call(1), call(2)));
            x.run(0);
            due("deepest", x.deepest(), 4);
        });
        test("Promise 17: in a THROWN run too", x -> {
            define(x, 1, raise(0));
            define(x, 0, call(1));
            due("run", x.run(0), THROWN);
            due("deepest", x.deepest(), 1);
        });
        test("Promise 17: in a TIRED run too, with a call that was begun in its last step", x -> {
            define(x, 0, seq(loop(0, sub(0, 1)), call(1)));
            load(x, 297, 1);
            due("run", x.run(0), TIRED);
            due("steps", x.steps(), 300);
            due("begun of the called body", x.begun(1, 0), 0);
            due("deepest", x.deepest(), 1);
        });
        test("Promise 17: in a DEEP run too, without the call that would have been the ninth", x -> {
            define(x, 0, call(0));
            due("run", x.run(0), DEEP);
            due("deepest", x.deepest(), 8);
        });
        test("Promise 17: the last run, not an earlier one", x -> {
            nestedCalls(x, 9);
            x.run(2);
            due("deepest", x.deepest(), 8);
            x.run(0);
            due("deepest", x.deepest(), 0);
        });
    }

    public static void main(String[] args) {
        newObject();
        loadEdges();
        runEdges();
        outcomeEdges();
        thrownEdges();
        registerEdges();
        stepsEdges();
        begunRefuses();
        begunCounts();
        begunOfLaterBodies();
        outEdges();
        deepestEdges();
        tellAndExit();
    }
}
