import java.util.ArrayList;
import java.util.LinkedHashMap;
import java.util.List;
import java.util.Map;

/** The boundary cases that the document names under "What it is" and "Terms". */
public final class TermsBoundaryTest extends BoundaryCases {
    private static void useAndConstants() {
        test("An object is used for at most 512 calls: the last of them is right", x -> {
            for (int i = 0; i < 102; i++) {
                due("simple", x.simple(OUT, 0, 0), 0);
                due("procedure", x.procedure(i % 3), 1);
                due("load", x.load(0, i), 0);
                due("run", x.run(i % 3), DONE);
                due("out", x.out(0), i);
            }
            due("call 511", x.outs(), 1);
            due("call 512", x.register(0), 101);
        });
        test("No call ever throws, also long after the 512th", x -> {
            for (int i = 0; i < 3000; i++) {
                x.simple(i % 12, i % 5, i % 4);
                x.loop(i % 4);
                x.join(i % 5, i % 4);
                if (x.procedure(i % 3) < 0 && i % 40 == 0) {
                    x.discard();
                }
                x.run(i % 4);
            }
        });
        test("No call ever throws, whatever the arguments are", x -> {
            int[] far = {LEAST, LEAST + 1, -101, -100, -1, 0, 1, 2, 3, 4, 10, 11, 19, 20, 21, 59, 60, 80, 299, 300,
                    301, GREATEST - 1, GREATEST};
            for (int state = 0; state < 4; state++) {
                for (int a : far) {
                    UnwindCode y = new UnwindCode();
                    push(y, state < 3 ? state : 20);
                    for (int b : far) {
                        y.load(a, b);
                        y.begun(a, b);
                        y.join(a, b);
                        y.simple(a, b, b);
                        y.simple(OUT, a, b);
                        y.simple(SET, a, b);
                        y.simple(CALL, b, a);
                    }
                    y.loop(a);
                    y.procedure(a);
                    y.run(a);
                    y.register(a);
                    y.out(a);
                }
            }
        });
        test("The constants", x -> {
            due("refusals", List.of(BAD_ARG, FULL, TOO_FEW, NONE, BAD_LOOP), List.of(-1, -2, -3, -4, -5));
            due("how runs end", List.of(DONE, THROWN, TIRED, DEEP), List.of(0, 1, 2, 3));
        });
    }

    /** What is in register 0 when the statement has been done once with a in register 0 and b in register 1. */
    private static int calculated(UnwindCode x, Code statement, int a, int b) {
        define(x, 0, statement);
        load(x, a, b);
        x.run(0);
        return x.register(0);
    }

    private static void registerEdges() {
        test("Terms: registers are 0 to 3, each one by itself", x -> {
            for (int r = 0; r <= 3; r++) {
                define(x, 0, set(r, 50));
                load(x, 1, 2, 3, 4);
                x.run(0);
                List<Integer> want = new ArrayList<>(List.of(1, 2, 3, 4));
                want.set(r, 50);
                due("registers after set " + r, registers(x), want);
            }
        });
        test("Terms: registers hold Java ints, from the least to the greatest", x -> {
            define(x, 0, seq(seq(out(0), out(1)), seq(out(2), out(3))));
            load(x, LEAST, GREATEST, LEAST + 1, GREATEST - 1);
            x.run(0);
            due("registers", registers(x), List.of(LEAST, GREATEST, LEAST + 1, GREATEST - 1));
            due("outs", outs(x), List.of(LEAST, GREATEST, LEAST + 1, GREATEST - 1));
        });
    }

    private static void wrappingEdges() {
        test("Terms: arithmetic wraps: a sum above the greatest", x -> {
            due("greatest + 1", calculated(x, add(0, 1), GREATEST, 1), LEAST);
            due("greatest + greatest", calculated(x, add(0, 0), GREATEST, 0), -2);
        });
        test("Terms: arithmetic wraps: a sum below the least", x -> {
            due("least + -1", calculated(x, add(0, 1), LEAST, -1), GREATEST);
            due("least + least", calculated(x, add(0, 0), LEAST, 0), 0);
        });
        test("Terms: arithmetic wraps: a difference below the least", x -> {
            due("least - 1", calculated(x, sub(0, 1), LEAST, 1), GREATEST);
            due("-2 - greatest", calculated(x, sub(0, 1), -2, GREATEST), GREATEST);
        });
        test("Terms: arithmetic wraps: a difference above the greatest", x -> {
            due("greatest - -1", calculated(x, sub(0, 1), GREATEST, -1), LEAST);
            due("0 - least", calculated(x, sub(0, 1), 0, LEAST), LEAST);
        });
        test("Terms: arithmetic wraps: a product below the least", x -> {
            due("least * 2", calculated(x, mul(0, 1), LEAST, 2), 0);
            due("greatest * -2", calculated(x, mul(0, 1), GREATEST, -2), 2);
            due("-46341 * 46341", calculated(x, mul(0, 1), -46341, 46341), 2147479015);
            due("least * greatest", calculated(x, mul(0, 1), LEAST, GREATEST), LEAST);
        });
        test("Terms: arithmetic wraps: a product above the greatest", x -> {
            due("least * -1", calculated(x, mul(0, 1), LEAST, -1), LEAST);
            due("65536 * 65536", calculated(x, mul(0, 0), 65536, 0), 0);
            due("greatest * greatest", calculated(x, mul(0, 0), GREATEST, 0), 1);
            due("46341 * 46341", calculated(x, mul(0, 0), 46341, 0), -2147479015);
            due("greatest * 2", calculated(x, mul(0, 1), GREATEST, 2), -2);
        });
        test("Terms: arithmetic does not wrap before the least or the greatest", x -> {
            due("sum", calculated(x, add(0, 1), GREATEST - 1, 1), GREATEST);
            due("difference", calculated(x, sub(0, 1), LEAST + 1, 1), LEAST);
            due("product", calculated(x, mul(0, 1), 46340, 46340), 2147395600);
        });
        test("Terms: add, sub, mul r s with r and s the same register", x -> {
            due("7 + 7", calculated(x, add(0, 0), 7, 1), 14);
            due("7 - 7", calculated(x, sub(0, 0), 7, 1), 0);
            due("7 * 7", calculated(x, mul(0, 0), 7, 1), 49);
        });
        test("Terms: add, sub, mul change register r alone, and put nothing out", x -> {
            for (Code statement : List.of(add(3, 0), sub(3, 0), mul(3, 0))) {
                due("register 0", calculated(x, statement, 6, 9), 6);
                due("registers 1 and 2", List.of(x.register(1), x.register(2)), List.of(9, 0));
                due("outs", x.outs(), 0);
            }
        });
    }

    private static void procedureNumberEdges() {
        test("Terms: procedures are 0 to 2, each with its own body", x -> {
            for (int p = 0; p <= 2; p++) {
                define(x, p, out(p));
            }
            load(x, 10, 11, 12);
            for (int p = 0; p <= 2; p++) {
                due("run", x.run(p), DONE);
                due("outs of procedure " + p, outs(x), List.of(10 + p));
            }
        });
        test("Terms: call p does the body of procedure p, for each of 0 to 2", x -> {
            for (int p = 0; p <= 2; p++) {
                UnwindCode y = new UnwindCode();
                int caller = (p + 1) % 3;
                define(y, p, out(p));
                define(y, caller, call(p));
                load(y, 10, 11, 12);
                due("run", y.run(caller), DONE);
                due("outs of procedure " + p, outs(y), List.of(10 + p));
            }
        });
    }

    /** Four whiles around a jump; behind the inner, second, third and outer one 1, 20, 30 and register 0 are put out. */
    private static void jumpInFourWhiles(UnwindCode x, Code jump) {
        Code inner = loop(0, seq(sub(0, 1), jump));
        Code second = loop(0, seq(inner, out(1)));
        Code third = loop(0, seq(second, out(2)));
        define(x, 0, seq(loop(0, seq(third, out(3))), out(0)));
        load(x, 2, 1, 20, 30);
        due("run", x.run(0), DONE);
    }

    private static void jumps() {
        List<List<Integer>> breaking = List.of(
                List.of(1, 1, 20, 30, 0), List.of(20, 20, 30, 0), List.of(30, 30, 0), List.of(1));
        List<List<Integer>> goingOn = List.of(List.of(1, 20, 30, 0), List.of(20, 30, 0), List.of(30, 0), List.of(0));
        for (int n = 0; n <= 3; n++) {
            int level = n;
            test("Terms: breaking n, n 0 to 3: " + n, x -> {
                jumpInFourWhiles(x, leave(level));
                due("outs", outs(x), breaking.get(level));
            });
            test("Terms: going on n, n 0 to 3: " + n, x -> {
                jumpInFourWhiles(x, goOn(level));
                due("outs", outs(x), goingOn.get(level));
            });
        }
    }

    /**
     * Tells how a statement of size statements ends, from what two whiles around it and a part behind them do.
     * Registers: 0 holds 10, 1 holds 11, 2 holds 77, 3 holds 1.
     */
    private static String wayOf(UnwindCode x, int size, Code statement) {
        Code inner = loop(3, seq(statement, seq(out(0), leave(1))));
        define(x, 0, seq(loop(3, seq(inner, seq(out(1), leave(0)))), out(3)));
        load(x, 10, 11, 77, 1);
        int outcome = x.run(0);
        if (outcome == THROWN) {
            return "throwing " + x.thrown();
        }
        if (outcome == TIRED) {
            return x.begun(0, size + 4) > 1 ? "going on 1" : "going on 0";
        }
        switch (x.outs()) {
            case 0: return "returning";
            case 1: return "breaking 1";
            default: return x.out(0) == 10 ? "normally" : "breaking 0";
        }
    }

    private static Map<String, Code> ways() {
        Map<String, Code> ways = new LinkedHashMap<>();
        ways.put("normally", skip());
        ways.put("throwing 77", raise(2));
        ways.put("breaking 0", leave(0));
        ways.put("breaking 1", leave(1));
        ways.put("going on 0", goOn(0));
        ways.put("going on 1", goOn(1));
        ways.put("returning", giveBack());
        return ways;
    }

    private static void waysOfEnding() {
        ways().forEach((way, a) -> {
            boolean normal = way.equals("normally");
            test("Terms: a simple statement ends " + way, x -> due("it", wayOf(x, 1, a), way));
            test("Terms: seq whose A ends " + way, x -> {
                due("with skip", wayOf(x, 3, seq(a, skip())), way);
                due("with return", wayOf(x, 3, seq(a, giveBack())), normal ? "returning" : way);
                due("begun of B", x.begun(0, 1), normal ? 1 : 0);
            });
            test("Terms: seq whose B ends " + way, x -> due("it", wayOf(x, 3, seq(skip(), a)), way));
            test("Terms: if, not 0, whose A ends " + way, x -> {
                due("it", wayOf(x, 3, when(0, a, raise(0))), way);
                due("begun of B", x.begun(0, 1), 0);
            });
            test("Terms: if, 0, whose B ends " + way, x -> {
                due("it", wayOf(x, 5, seq(set(1, 0), when(1, raise(0), a))), way);
                due("begun of A", x.begun(0, 1), 0);
            });
            test("Terms: catch whose A ends " + way, x -> {
                boolean caught = way.equals("throwing 77");
                due("it", wayOf(x, 3, guard(1, a, giveBack())), caught ? "returning" : way);
                due("begun of B", x.begun(0, 1), caught ? 1 : 0);
                due("register", x.register(1), caught ? 77 : 11);
            });
            test("Terms: catch whose B ends " + way, x -> due("it", wayOf(x, 3, guard(1, raise(3), a)), way));
            test("Terms: while whose A, with register r 0 afterwards, ends " + way, x -> {
                // Going on 1 becomes going on 0: the while around begins this one again, which then ends normally.
                Map<String, String> outside = Map.of("breaking 0", "normally", "going on 0", "normally",
                        "breaking 1", "breaking 0", "going on 1", "normally");
                due("it", wayOf(x, 4, loop(1, seq(set(1, 0), a))), outside.getOrDefault(way, way));
                due("begun of it", x.begun(0, 3), way.equals("going on 1") ? 2 : 1);
            });
            ways().forEach((other, b) -> test("Terms: lastly whose A ends " + way + " and B " + other, x -> {
                due("it", wayOf(x, 3, lastly(a, b)), other.equals("normally") ? way : other);
                due("begun of B is that of A", x.begun(0, 1), x.begun(0, 0));
            }));
        });
    }

    private static void ifAndWhile() {
        test("Terms: if: only 0 is not 'not 0'", x -> {
            define(x, 0, when(0, out(1), out(2)));
            for (int value : new int[] {LEAST, -1, 0, 1, 256, 65536, GREATEST}) {
                load(x, value, 5, 6);
                x.run(0);
                due("outs with " + value, outs(x), List.of(value == 0 ? 6 : 5));
            }
        });
        test("Terms: while: register r is 0 at once: A is not done", x -> {
            define(x, 0, seq(loop(0, out(1)), out(2)));
            load(x, 0, 5, 6);
            due("run", x.run(0), DONE);
            due("outs", outs(x), List.of(6));
            due("steps", x.steps(), 3);
        });
        test("Terms: while: A is done for every number but 0", x -> {
            define(x, 0, loop(0, set(0, 0)));
            for (int value : new int[] {LEAST, -1, 1, 256, 65536, GREATEST}) {
                x.load(0, value);
                due("run", x.run(0), DONE);
                due("begun of A with " + value, x.begun(0, 0), 1);
            }
        });
        test("Terms: while: when register r is looked at again, only 0 ends it", x -> {
            define(x, 0, loop(0, seq(out(0), add(0, 1))));
            load(x, -3, 1);
            due("run", x.run(0), DONE);
            due("outs", outs(x), List.of(-3, -2, -1));
            load(x, LEAST + 1, LEAST + 1);
            due("run", x.run(0), TIRED);
            due("out 1", x.out(1), 2);
            due("out 2", x.out(2), LEAST + 3);
        });
        test("Terms: while: again and again is no new beginning of the while", x -> {
            define(x, 0, loop(0, sub(0, 1)));
            load(x, 5, 1);
            due("run", x.run(0), DONE);
            due("begun of A", x.begun(0, 0), 5);
            due("begun of the while", x.begun(0, 1), 1);
            due("steps", x.steps(), 6);
        });
        test("Terms: while: going on 0 looks at register r again and A is done once more", x -> {
            define(x, 0, loop(0, seq(sub(0, 1), goOn(0))));
            load(x, 3, 1);
            due("run", x.run(0), DONE);
            due("begun of go on", x.begun(0, 1), 3);
        });
        test("Terms: while: breaking 0 ends it though register r is not 0", x -> {
            define(x, 0, seq(loop(0, leave(0)), out(0)));
            x.load(0, 9);
            due("run", x.run(0), DONE);
            due("outs", outs(x), List.of(9));
            due("begun of break", x.begun(0, 0), 1);
        });
        test("Terms: while: going on n above 0 ends the inner while though its register is not 0", x -> {
            define(x, 0, loop(0, loop(1, seq(sub(0, 1), goOn(1)))));
            load(x, 3, 1);
            due("run", x.run(0), DONE);
            due("begun of the inner while", x.begun(0, 3), 3);
        });
    }

    private static void catchAndLastly() {
        test("Terms: catch: a thrown 0 is caught too", x -> {
            define(x, 0, guard(1, raise(0), out(1)));
            load(x, 0, 8);
            due("run", x.run(0), DONE);
            due("outs", outs(x), List.of(0));
        });
        test("Terms: catch: it does not catch what its own B throws", x -> {
            define(x, 0, guard(1, raise(0), raise(2)));
            load(x, 5, 6, 7);
            due("run", x.run(0), THROWN);
            due("thrown", x.thrown(), 7);
            due("begun of B", x.begun(0, 1), 1);
            due("register 1", x.register(1), 5);
        });
        test("Terms: catch: the number is the one of the throw, not what the register became later", x -> {
            define(x, 0, guard(1, lastly(raise(0), set(0, 3)), out(1)));
            x.load(0, 5);
            due("run", x.run(0), DONE);
            due("outs", outs(x), List.of(5));
        });
        test("Terms: lastly: A's number is kept though B throws and catches another", x -> {
            define(x, 0, lastly(raise(0), guard(2, raise(1), out(2))));
            load(x, 5, 6);
            due("run", x.run(0), THROWN);
            due("thrown", x.thrown(), 5);
            due("outs", outs(x), List.of(6));
        });
        test("Terms: lastly inside lastly: each keeps its own A", x -> {
            define(x, 0, lastly(raise(0), guard(3, lastly(raise(1), lastly(raise(2), skip())), out(3))));
            load(x, 5, 6, 7);
            due("run", x.run(0), THROWN);
            due("thrown", x.thrown(), 5);
            due("outs", outs(x), List.of(7));
        });
        test("Terms: lastly that was done before is done anew", x -> {
            define(x, 0, loop(0, seq(lastly(sub(0, 1), out(0)), out(2))));
            load(x, 2, 1, 9);
            due("run", x.run(0), DONE);
            due("outs", outs(x), List.of(1, 9, 0, 9));
        });
    }

    private static void callStatement() {
        test("Terms: call: a body that ends normally, and one that returns: the call ends normally", x -> {
            for (Code body : List.of(skip(), giveBack())) {
                define(x, 1, body);
                due("it", wayOf(x, 1, call(1)), "normally");
            }
        });
        test("Terms: call: a body that throws: the call throws the same number", x -> {
            define(x, 1, raise(2));
            due("it", wayOf(x, 1, call(1)), "throwing 77");
            define(x, 1, seq(sub(2, 2), raise(2)));
            due("0", wayOf(x, 1, call(1)), "throwing 0");
        });
        test("Terms: call: a return goes no further than its own procedure", x -> {
            define(x, 2, giveBack());
            define(x, 1, seq(call(2), out(1)));
            define(x, 0, seq(call(1), out(0)));
            load(x, 5, 6);
            due("run", x.run(0), DONE);
            due("outs", outs(x), List.of(6, 5));
        });
    }

    private static void numbers() {
        test("Terms: 0 for the first one made: a new object", x -> due("simple", x.simple(SKIP, 0, 0), 0));
        test("Terms: 0 for the first one since the stack was emptied: discard", x -> {
            push(x, 3);
            x.discard();
            due("simple", x.simple(SKIP, 0, 0), 0);
        });
        test("Terms: 0 for the first one since the stack was emptied: procedure", x -> {
            define(x, 0, seq(skip(), skip()));
            due("simple", x.simple(SKIP, 0, 0), 0);
        });
        test("Terms: 0 for the first one since the stack was emptied: discard of an empty stack", x -> {
            x.discard();
            due("simple", x.simple(SKIP, 0, 0), 0);
            due("simple", x.simple(SKIP, 0, 0), 1);
        });
        test("Terms: loop of the only statement does not empty the stack: numbers go on", x -> {
            push(x, 1);
            due("loop", x.loop(0), 1);
            due("simple", x.simple(SKIP, 0, 0), 2);
        });
        test("Terms: join of the only two does not empty the stack: numbers go on", x -> {
            push(x, 2);
            due("join", x.join(SEQ, 0), 2);
            due("simple", x.simple(SKIP, 0, 0), 3);
        });
        test("Terms: refused procedures do not empty the stack: numbers go on", x -> {
            leave(0).put(x);
            due("procedure", x.procedure(3), BAD_ARG);
            due("procedure", x.procedure(0), BAD_LOOP);
            due("simple", x.simple(SKIP, 0, 0), 1);
            due("procedure", x.procedure(0), TOO_FEW);
            due("simple", x.simple(SKIP, 0, 0), 2);
        });
        test("Terms: refused statements take no number", x -> {
            push(x, 1);
            due("simple", x.simple(11, 0, 0), BAD_ARG);
            due("loop", x.loop(4), BAD_ARG);
            due("join", x.join(SEQ, 0), TOO_FEW);
            due("simple", x.simple(SKIP, 0, 0), 1);
        });
        test("Terms: runs and loads do not begin the numbers anew", x -> {
            push(x, 2);
            x.load(0, 1);
            x.run(0);
            due("simple", x.simple(SKIP, 0, 0), 2);
            due("depth", x.depth(), 3);
        });
    }

    /** What the object tells now, and what it answers when it goes on: nothing of its state stays hidden. */
    private static List<String> tellAll(UnwindCode x) {
        List<String> told = new ArrayList<>();
        told.add(look(x));
        told.add("more " + x.simple(OUT, 3, 0));
        while (x.depth() > 1 && x.join(SEQ, 0) >= 0) {
            told.add("joined");
        }
        told.add("looped " + x.loop(3) + " " + x.procedure(1));
        told.add("left " + x.discard());
        for (int p = 0; p < 3; p++) {
            told.add("ran " + x.run(p) + " " + look(x));
        }
        return told;
    }

    private static void unchanged(String sentence, int answer, Test before, Call refused) {
        test("Terms: a refused call answers the code named and changes nothing: " + sentence, x -> {
            for (int state = 0; state < 2; state++) {
                UnwindCode y = new UnwindCode();
                UnwindCode z = new UnwindCode();
                for (UnwindCode object : List.of(y, z)) {
                    if (state == 1) {
                        rich(object);
                    }
                    before.on(object);
                }
                due("the refused call", refused.on(y), answer);
                due("what comes after it", tellAll(y), tellAll(z));
            }
        });
    }

    private static void refusals() {
        Test nothing = x -> { };
        Test one = x -> out(1).put(x);
        Test two = x -> {
            out(1).put(x);
            out(2).put(x);
        };
        Test full = x -> push(x, 20);
        Test fullWithOne = BoundaryCases::fillWithOne;
        Test badLoop = x -> leave(0).put(x);
        unchanged("simple, op", BAD_ARG, two, x -> x.simple(11, 0, 0));
        unchanged("simple, r", BAD_ARG, two, x -> x.simple(OUT, 4, 0));
        unchanged("simple, n", BAD_ARG, two, x -> x.simple(CALL, 0, 3));
        unchanged("simple, FULL", FULL, full, x -> x.simple(OUT, 0, 0));
        unchanged("simple, FULL with one on the stack", FULL, fullWithOne, x -> x.simple(OUT, 0, 0));
        unchanged("simple, op, r, n and FULL", BAD_ARG, full, x -> x.simple(11, 4, 101));
        unchanged("loop, r and FULL", BAD_ARG, full, x -> x.loop(4));
        unchanged("loop, r and TOO_FEW", BAD_ARG, nothing, x -> x.loop(-1));
        unchanged("join, r, FULL and TOO_FEW", BAD_ARG, fullWithOne, x -> x.join(IF, 4));
        unchanged("join, FULL and TOO_FEW", FULL, fullWithOne, x -> x.join(LASTLY, 4));
        unchanged("procedure, p and TOO_FEW", BAD_ARG, two, x -> x.procedure(-1));
        unchanged("procedure, p and BAD_LOOP", BAD_ARG, badLoop, x -> x.procedure(3));
        unchanged("loop, r", BAD_ARG, two, x -> x.loop(4));
        unchanged("loop, FULL", FULL, full, x -> x.loop(0));
        unchanged("loop, FULL with one on the stack", FULL, fullWithOne, x -> x.loop(1));
        unchanged("loop, TOO_FEW", TOO_FEW, nothing, x -> x.loop(0));
        unchanged("join, op", BAD_ARG, two, x -> x.join(4, 0));
        unchanged("join, r", BAD_ARG, two, x -> x.join(CATCH, 4));
        unchanged("join, FULL", FULL, full, x -> x.join(SEQ, 0));
        unchanged("join, TOO_FEW with one", TOO_FEW, one, x -> x.join(SEQ, 0));
        unchanged("join, TOO_FEW with none", TOO_FEW, nothing, x -> x.join(SEQ, 0));
        unchanged("procedure, p", BAD_ARG, one, x -> x.procedure(3));
        unchanged("procedure, TOO_FEW with none", TOO_FEW, nothing, x -> x.procedure(0));
        unchanged("procedure, TOO_FEW with two", TOO_FEW, two, x -> x.procedure(0));
        unchanged("procedure, BAD_LOOP", BAD_LOOP, badLoop, x -> x.procedure(0));
        unchanged("load, r below", BAD_ARG, one, x -> x.load(-1, 99));
        unchanged("load, r above", BAD_ARG, one, x -> x.load(4, 99));
        unchanged("run, p below", BAD_ARG, one, x -> x.run(-1));
        unchanged("run, p above", BAD_ARG, one, x -> x.run(3));
        unchanged("begun, p", BAD_ARG, one, x -> x.begun(3, 0));
        unchanged("begun, number", BAD_ARG, one, x -> x.begun(0, 20));
        unchanged("register, r", 0, one, x -> x.register(4));
        unchanged("out, i", 0, one, x -> x.out(300));
    }

    /** The number of the first statement made behind the countdown of beginAt. */
    private static final int BEHIND = 2;

    /** Procedure 0 is a countdown and then the statement, which begins as step number first; register 1 holds 1. */
    private static void beginAt(UnwindCode x, int first, Code statement) {
        define(x, 0, seq(loop(0, sub(0, 1)), statement));
        load(x, first - 3, 1);
    }

    /** The last of the statement's steps is number 300 and then number 301; last is the number of what it begins. */
    private static void lastStep(String sentence, int steps, int last, int outcome, Code statement) {
        test("Terms: the 300th step is made: " + sentence, x -> {
            beginAt(x, 301 - steps, statement);
            due("run", x.run(0), outcome);
            due("outcome", x.outcome(), outcome);
            due("steps", x.steps(), 300);
            due("begun of the last", x.begun(0, BEHIND + last), 1);
        });
        test("Terms: where the 301st step would be made the run ends, TIRED: " + sentence, x -> {
            beginAt(x, 302 - steps, statement);
            due("run", x.run(0), TIRED);
            due("outcome", x.outcome(), TIRED);
            due("steps", x.steps(), 300);
            due("begun of the last", x.begun(0, BEHIND + last), 0);
            due("thrown", x.thrown(), 0);
            due("outs", x.outs(), 0);
        });
    }

    private static void tiredInEachStatement() {
        lastStep("a simple statement", 1, 0, DONE, out(1));
        lastStep("A of seq", 2, 0, THROWN, seq(raise(1), skip()));
        lastStep("B of seq", 3, 1, DONE, seq(skip(), out(1)));
        lastStep("A of if", 2, 0, DONE, when(1, out(1), skip()));
        lastStep("B of if", 2, 1, DONE, when(0, skip(), out(1)));
        lastStep("A of while", 2, 0, DONE, loop(1, leave(0)));
        lastStep("A of catch", 2, 0, DONE, guard(2, out(1), skip()));
        lastStep("B of catch", 3, 1, DONE, guard(2, raise(1), out(1)));
        lastStep("B of lastly", 3, 1, DONE, lastly(skip(), out(1)));
        lastStep("B of lastly whose A throws", 3, 1, THROWN, lastly(raise(1), out(1)));
        lastStep("B of lastly whose A returns", 3, 1, DONE, lastly(giveBack(), out(1)));
        lastStep("what comes after a call", 4, 1, DONE, seq(call(2), out(1)));
    }

    private static void tiredInWhileAndCall() {
        test("Terms: a run of no more than 300 steps: a while that looks at its register after the 300th", x -> {
            beginAt(x, 299, loop(1, set(1, 0)));
            due("run", x.run(0), DONE);
            due("steps", x.steps(), 300);
        });
        test("Terms: where the 301st step would be made: A of while once more", x -> {
            beginAt(x, 299, loop(1, skip()));
            due("run", x.run(0), TIRED);
            due("steps", x.steps(), 300);
            due("begun of A", x.begun(0, BEHIND), 1);
        });
        test("Terms: where the 301st step would be made: a while whose register is 0", x -> {
            beginAt(x, 300, loop(0, skip()));
            due("run", x.run(0), DONE);
            beginAt(x, 301, loop(0, skip()));
            due("run", x.run(0), TIRED);
        });
        test("Terms: where the 301st step would be made: the first statement of a called body", x -> {
            define(x, 1, out(1));
            beginAt(x, 299, call(1));
            due("run", x.run(0), DONE);
            due("steps", x.steps(), 300);
            beginAt(x, 300, call(1));
            due("run", x.run(0), TIRED);
            due("steps", x.steps(), 300);
            due("begun of the call", x.begun(0, BEHIND), 1);
            due("begun of the body", x.begun(1, 0), 0);
            due("deepest", x.deepest(), 1);
        });
    }

    private static void tiredRuns() {
        test("Terms: TIRED: the run ends there: no catch, no lastly, no caller goes on", x -> {
            define(x, 1, lastly(loop(1, skip()), out(1)));
            define(x, 0, seq(guard(2, lastly(call(1), out(1)), out(1)), out(1)));
            load(x, 0, 1, 5);
            due("run", x.run(0), TIRED);
            due("outs", x.outs(), 0);
            due("registers", registers(x), List.of(0, 1, 5, 0));
            due("steps", x.steps(), 300);
        });
        test("Terms: TIRED: the run before and the run after have 300 steps of their own", x -> {
            beginAt(x, 300, skip());
            due("run", x.run(0), DONE);
            due("run", x.run(0), DONE);
            x.load(0, 298);
            due("run", x.run(0), TIRED);
            x.load(0, 297);
            due("run", x.run(0), DONE);
            due("steps", x.steps(), 300);
        });
        test("Terms: TIRED: what the run left waiting is no part of the next run", x -> {
            Code endless = loop(1, skip());
            define(x, 1, raise(0));
            load(x, 5, 1);
            List<Code> kinds = List.of(
                    endless, seq(endless, out(0)), guard(3, endless, out(0)), lastly(endless, out(0)));
            for (Code left : kinds) {
                define(x, 0, left);
                due("run", x.run(0), TIRED);
                due("run", x.run(2), DONE);
                due("steps", x.steps(), 1);
                due("run", x.run(0), TIRED);
                due("run", x.run(1), THROWN);
                due("steps", x.steps(), 1);
                due("outs", x.outs(), 0);
            }
        });
        test("Terms: TIRED: register r of catch has become v where B would be begun in the 301st step", x -> {
            beginAt(x, 299, guard(2, raise(1), set(2, 9)));
            due("run", x.run(0), TIRED);
            due("begun of B", x.begun(0, BEHIND + 1), 0);
            due("registers", registers(x), List.of(0, 1, 1, 0));
        });
        test("Terms: TIRED: a THROWN run in its 300th step", x -> {
            beginAt(x, 300, raise(1));
            due("run", x.run(0), THROWN);
            due("thrown", x.thrown(), 1);
        });
    }

    private static void deepRuns() {
        test("Terms: a call while 7 calls have begun and not ended", x -> {
            nestedCalls(x, 8);
            due("run", x.run(2), DONE);
            due("deepest", x.deepest(), 8);
            due("begun of the call", x.begun(2, 1), 8);
            due("begun of the body", x.begun(2, 4), 9);
            due("steps", x.steps(), 8 * 4 + 2);
        });
        test("Terms: a call while 8 calls have begun and not ended: DEEP", x -> {
            nestedCalls(x, 9);
            due("run", x.run(2), DEEP);
            due("outcome", x.outcome(), DEEP);
            due("thrown", x.thrown(), 0);
            due("deepest", x.deepest(), 8);
            due("register 0", x.register(0), 0);
        });
        test("Terms: DEEP: the step of that call has been made", x -> {
            nestedCalls(x, 9);
            x.run(2);
            due("steps", x.steps(), 9 * 4);
            due("begun of the call", x.begun(2, 1), 9);
            due("begun of the body", x.begun(2, 4), 9);
        });
        test("Terms: DEEP: whichever procedures call and are called", x -> {
            define(x, 0, call(1));
            define(x, 1, call(2));
            define(x, 2, call(0));
            due("run", x.run(0), DEEP);
            due("deepest", x.deepest(), 8);
            due("begun", List.of(x.begun(0, 0), x.begun(1, 0), x.begun(2, 0)), List.of(3, 3, 3));
        });
        test("Terms: DEEP: what the run left waiting is no part of the next run", x -> {
            define(x, 0, seq(guard(2, lastly(call(0), out(1)), out(1)), out(1)));
            define(x, 1, raise(1));
            due("run", x.run(0), DEEP);
            due("run", x.run(2), DONE);
            due("steps", x.steps(), 1);
            due("run", x.run(0), DEEP);
            due("run", x.run(1), THROWN);
            due("steps", x.steps(), 1);
            due("outs", x.outs(), 0);
        });
        test("Terms: DEEP: the run ends there: no catch, no lastly, no caller goes on", x -> {
            define(x, 0, seq(guard(2, lastly(call(0), out(1)), out(1)), out(1)));
            load(x, 3, 1, 5, 4);
            due("run", x.run(0), DEEP);
            due("outs", x.outs(), 0);
            due("registers", registers(x), List.of(3, 1, 5, 4));
        });
    }

    private static void endedCalls() {
        test("Terms: calls that have ended normally do not count", x -> {
            define(x, 1, loop(0, seq(sub(0, 1), call(2))));
            load(x, 20, 1);
            due("run", x.run(1), DONE);
            due("deepest", x.deepest(), 1);
        });
        test("Terms: calls that have ended by a return in them do not count", x -> {
            define(x, 2, giveBack());
            define(x, 1, loop(0, seq(sub(0, 1), call(2))));
            load(x, 20, 1);
            due("run", x.run(1), DONE);
            due("deepest", x.deepest(), 1);
        });
        test("Terms: calls that have ended throwing do not count", x -> {
            define(x, 2, raise(1));
            define(x, 1, loop(0, seq(sub(0, 1), guard(3, call(2), skip()))));
            load(x, 20, 1);
            due("run", x.run(1), DONE);
            due("deepest", x.deepest(), 1);
        });
        test("Terms: eight calls thrown out of at once have all ended", x -> {
            define(x, 2, when(0, seq(sub(0, 1), call(2)), raise(1)));
            Code eight = guard(3, call(2), set(0, 7));
            define(x, 1, seq(eight, call(2)));
            load(x, 7, 1);
            due("run", x.run(1), THROWN);
            due("deepest", x.deepest(), 8);
        });
        test("Terms: a run has its own count of calls: after a DEEP one eight are fine", x -> {
            nestedCalls(x, 9);
            due("run", x.run(2), DEEP);
            x.load(0, 8);
            due("run", x.run(2), DONE);
        });
    }

    private static void deepOrTired() {
        test("Terms: the ninth call in the 300th step: DEEP, its step has been made", x -> {
            define(x, 1, call(1));
            beginAt(x, 292, call(1));
            due("run", x.run(0), DEEP);
            due("steps", x.steps(), 300);
            due("begun of the call in the body", x.begun(1, 0), 8);
        });
        test("Terms: the ninth call where the 301st step would be made: TIRED", x -> {
            define(x, 1, call(1));
            beginAt(x, 293, call(1));
            due("run", x.run(0), TIRED);
            due("steps", x.steps(), 300);
            due("begun of the call in the body", x.begun(1, 0), 7);
            due("deepest", x.deepest(), 8);
        });
    }

    private static void runsInTerms() {
        test("Terms: a run begins with the registers as loaded, not as the run before left them", x -> {
            define(x, 0, seq(set(0, 50), seq(set(1, 51), seq(set(2, 52), set(3, 53)))));
            load(x, 1, 2, 3, 4);
            x.run(0);
            due("registers", registers(x), List.of(50, 51, 52, 53));
            x.run(1);
            due("registers", registers(x), List.of(1, 2, 3, 4));
        });
        test("Terms: DONE if it ends normally", x -> {
            define(x, 0, out(0));
            due("run", x.run(0), DONE);
        });
        test("Terms: DONE if it ends returning", x -> {
            define(x, 0, seq(giveBack(), out(0)));
            due("run", x.run(0), DONE);
            due("outs", x.outs(), 0);
        });
        test("Terms: THROWN if throwing, also 0", x -> {
            define(x, 0, raise(0));
            due("run", x.run(0), THROWN);
            x.load(0, -1);
            due("run", x.run(0), THROWN);
        });
    }

    public static void main(String[] args) {
        useAndConstants();
        registerEdges();
        wrappingEdges();
        procedureNumberEdges();
        jumps();
        waysOfEnding();
        ifAndWhile();
        catchAndLastly();
        callStatement();
        numbers();
        refusals();
        tiredInEachStatement();
        tiredInWhileAndCall();
        tiredRuns();
        deepRuns();
        endedCalls();
        deepOrTired();
        runsInTerms();
        tellAndExit();
    }
}
