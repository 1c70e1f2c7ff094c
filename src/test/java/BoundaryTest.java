import java.util.ArrayList;
import java.util.LinkedHashMap;
import java.util.List;
import java.util.Map;

/** One test, with a new object, for each sentence of the document that names a boundary case; it bears its words. */
public final class BoundaryTest {
    private static final int BAD_ARG = UnwindCode.BAD_ARG;
    private static final int FULL = UnwindCode.FULL;
    private static final int TOO_FEW = UnwindCode.TOO_FEW;
    private static final int NONE = UnwindCode.NONE;
    private static final int BAD_LOOP = UnwindCode.BAD_LOOP;
    private static final int DONE = UnwindCode.DONE;
    private static final int THROWN = UnwindCode.THROWN;
    private static final int TIRED = UnwindCode.TIRED;
    private static final int DEEP = UnwindCode.DEEP;
    private static final int LEAST = Integer.MIN_VALUE;
    private static final int GREATEST = Integer.MAX_VALUE;

    private static final int SKIP = 0;
    private static final int SET = 1;
    private static final int ADD = 2;
    private static final int SUB = 3;
    private static final int MUL = 4;
    private static final int OUT = 5;
    private static final int THROW = 6;
    private static final int BREAK = 7;
    private static final int GO_ON = 8;
    private static final int RETURN = 9;
    private static final int CALL = 10;
    private static final int SEQ = 0;
    private static final int IF = 1;
    private static final int CATCH = 2;
    private static final int LASTLY = 3;

    private static final int[] NO_REGISTERS = {LEAST, -1, 4, GREATEST};
    private static final int[] NO_PROCEDURES = {LEAST, -1, 3, GREATEST};

    private interface Test {
        void on(UnwindCode x);
    }

    private interface Call {
        int on(UnwindCode x);
    }

    /** A statement that is still to be put on the stack of an object. */
    private interface Code {
        void put(UnwindCode x);
    }

    private static int tests = 0;
    private static int wrong = 0;
    private static String name = "";

    private static void test(String sentence, Test test) {
        tests++;
        name = sentence;
        try {
            test.on(new UnwindCode());
        } catch (RuntimeException | StackOverflowError thrown) {
            wrong++;
            System.out.println(name + ": threw " + thrown);
        }
    }

    private static void due(String what, Object got, Object want) {
        if (!got.equals(want)) {
            wrong++;
            System.out.println(name + ": " + what + " answered " + got + ", due is " + want);
        }
    }

    private static void taken(int answer) {
        if (answer < 0) {
            wrong++;
            System.out.println(name + ": a statement was refused with " + answer);
        }
    }

    private static Code simple(int op, int r, int n) {
        return x -> taken(x.simple(op, r, n));
    }

    private static Code skip() {
        return simple(SKIP, 0, 0);
    }

    private static Code set(int r, int n) {
        return simple(SET, r, n);
    }

    private static Code add(int r, int s) {
        return simple(ADD, r, s);
    }

    private static Code sub(int r, int s) {
        return simple(SUB, r, s);
    }

    private static Code mul(int r, int s) {
        return simple(MUL, r, s);
    }

    private static Code out(int r) {
        return simple(OUT, r, 0);
    }

    private static Code raise(int r) {
        return simple(THROW, r, 0);
    }

    private static Code leave(int n) {
        return simple(BREAK, 0, n);
    }

    private static Code goOn(int n) {
        return simple(GO_ON, 0, n);
    }

    private static Code giveBack() {
        return simple(RETURN, 0, 0);
    }

    private static Code call(int p) {
        return simple(CALL, 0, p);
    }

    private static Code loop(int r, Code a) {
        return x -> {
            a.put(x);
            taken(x.loop(r));
        };
    }

    private static Code join(int op, int r, Code a, Code b) {
        return x -> {
            a.put(x);
            b.put(x);
            taken(x.join(op, r));
        };
    }

    private static Code seq(Code a, Code b) {
        return join(SEQ, 0, a, b);
    }

    private static Code when(int r, Code a, Code b) {
        return join(IF, r, a, b);
    }

    private static Code guard(int r, Code a, Code b) {
        return join(CATCH, r, a, b);
    }

    private static Code lastly(Code a, Code b) {
        return join(LASTLY, 0, a, b);
    }

    private static void define(UnwindCode x, int p, Code body) {
        body.put(x);
        taken(x.procedure(p));
    }

    private static void load(UnwindCode x, int... values) {
        for (int r = 0; r < values.length; r++) {
            x.load(r, values[r]);
        }
    }

    private static void push(UnwindCode x, int count) {
        for (int i = 0; i < count; i++) {
            skip().put(x);
        }
    }

    /** Twenty statements made, one of them on the stack. */
    private static void fillWithOne(UnwindCode x) {
        push(x, 1);
        for (int i = 1; i < 20; i++) {
            taken(x.loop(0));
        }
    }

    private static List<Integer> outs(UnwindCode x) {
        List<Integer> all = new ArrayList<>();
        for (int i = 0; i < x.outs(); i++) {
            all.add(x.out(i));
        }
        return all;
    }

    private static List<Integer> registers(UnwindCode x) {
        return List.of(x.register(0), x.register(1), x.register(2), x.register(3));
    }

    /** What an object tells without being changed; of what was put out only some, as an object has but 512 calls. */
    private static String look(UnwindCode x) {
        StringBuilder told = new StringBuilder();
        told.append("depth ").append(x.depth()).append(" outcome ").append(x.outcome());
        told.append(" thrown ").append(x.thrown()).append(" registers ").append(registers(x));
        told.append(" steps ").append(x.steps()).append(" outs ").append(x.outs());
        told.append(" of ").append(List.of(x.out(0), x.out(1), x.out(2), x.out(100)));
        told.append(" deepest ").append(x.deepest()).append(" begun");
        for (int p = 0; p < 3; p++) {
            int times = 0;
            for (int number = 0; number <= 20 && times != BAD_ARG; number++) {
                times = x.begun(p, number);
                told.append(' ').append(times);
            }
            told.append(';');
        }
        return told.toString();
    }

    // ---- What it is, and the constants

    private static void useAndConstants() {
        test("An object is used for at most 512 calls: the last of them is right", x -> {
            for (int i = 0; i < 102; i++) {
                due("simple", x.simple(OUT, 0, 0), 0);
                due("procedure", x.procedure(i % 3), 1);
                due("load", x.load(0, i), 0);
                due("run", x.run(i % 3), DONE);
                due("out", x.out(0), i);
            }
            due("call 511", x.outs(), 1);
            due("call 512", x.register(0), 101);
        });
        test("No call ever throws, also long after the 512th", x -> {
            for (int i = 0; i < 3000; i++) {
                x.simple(i % 12, i % 5, i % 4);
                x.loop(i % 4);
                x.join(i % 5, i % 4);
                if (x.procedure(i % 3) < 0 && i % 40 == 0) {
                    x.discard();
                }
                x.run(i % 4);
            }
        });
        test("No call ever throws, whatever the arguments are", x -> {
            int[] far = {LEAST, LEAST + 1, -101, -100, -1, 0, 1, 2, 3, 4, 10, 11, 19, 20, 21, 59, 60, 80, 299, 300,
                    301, GREATEST - 1, GREATEST};
            for (int state = 0; state < 4; state++) {
                for (int a : far) {
                    UnwindCode y = new UnwindCode();
                    push(y, state < 3 ? state : 20);
                    for (int b : far) {
                        y.load(a, b);
                        y.begun(a, b);
                        y.join(a, b);
                        y.simple(a, b, b);
                        y.simple(OUT, a, b);
                        y.simple(SET, a, b);
                        y.simple(CALL, b, a);
                    }
                    y.loop(a);
                    y.procedure(a);
                    y.run(a);
                    y.register(a);
                    y.out(a);
                }
            }
        });
        test("The constants", x -> due("they", List.of(BAD_ARG, FULL, TOO_FEW, NONE, BAD_LOOP, DONE, THROWN, TIRED, DEEP),
                List.of(-1, -2, -3, -4, -5, 0, 1, 2, 3)));
    }

    // ---- Terms: registers, procedures, ways of ending

    /** What is in register 0 when the statement has been done once with a in register 0 and b in register 1. */
    private static int calculated(UnwindCode x, Code statement, int a, int b) {
        define(x, 0, statement);
        load(x, a, b);
        x.run(0);
        return x.register(0);
    }

    private static void registersAndProcedures() {
        test("Terms: registers are 0 to 3, each one by itself", x -> {
            for (int r = 0; r <= 3; r++) {
                define(x, 0, set(r, 50));
                load(x, 1, 2, 3, 4);
                x.run(0);
                List<Integer> want = new ArrayList<>(List.of(1, 2, 3, 4));
                want.set(r, 50);
                due("registers after set " + r, registers(x), want);
            }
        });
        test("Terms: registers hold Java ints, from the least to the greatest", x -> {
            define(x, 0, seq(seq(out(0), out(1)), seq(out(2), out(3))));
            load(x, LEAST, GREATEST, LEAST + 1, GREATEST - 1);
            x.run(0);
            due("registers", registers(x), List.of(LEAST, GREATEST, LEAST + 1, GREATEST - 1));
            due("outs", outs(x), List.of(LEAST, GREATEST, LEAST + 1, GREATEST - 1));
        });
        test("Terms: arithmetic wraps: a sum above the greatest", x -> {
            due("greatest + 1", calculated(x, add(0, 1), GREATEST, 1), LEAST);
            due("greatest + greatest", calculated(x, add(0, 0), GREATEST, 0), -2);
        });
        test("Terms: arithmetic wraps: a sum below the least", x -> {
            due("least + -1", calculated(x, add(0, 1), LEAST, -1), GREATEST);
            due("least + least", calculated(x, add(0, 0), LEAST, 0), 0);
        });
        test("Terms: arithmetic wraps: a difference below the least", x -> {
            due("least - 1", calculated(x, sub(0, 1), LEAST, 1), GREATEST);
            due("-2 - greatest", calculated(x, sub(0, 1), -2, GREATEST), GREATEST);
        });
        test("Terms: arithmetic wraps: a difference above the greatest", x -> {
            due("greatest - -1", calculated(x, sub(0, 1), GREATEST, -1), LEAST);
            due("0 - least", calculated(x, sub(0, 1), 0, LEAST), LEAST);
        });
        test("Terms: arithmetic wraps: a product beyond an int", x -> {
            due("least * -1", calculated(x, mul(0, 1), LEAST, -1), LEAST);
            due("65536 * 65536", calculated(x, mul(0, 0), 65536, 0), 0);
            due("greatest * greatest", calculated(x, mul(0, 0), GREATEST, 0), 1);
            due("46341 * 46341", calculated(x, mul(0, 0), 46341, 0), -2147479015);
            due("greatest * 2", calculated(x, mul(0, 1), GREATEST, 2), -2);
        });
        test("Terms: arithmetic does not wrap before the least or the greatest", x -> {
            due("sum", calculated(x, add(0, 1), GREATEST - 1, 1), GREATEST);
            due("difference", calculated(x, sub(0, 1), LEAST + 1, 1), LEAST);
            due("product", calculated(x, mul(0, 1), 46340, 46340), 2147395600);
        });
        test("Terms: add, sub, mul r s with r and s the same register", x -> {
            due("7 + 7", calculated(x, add(0, 0), 7, 1), 14);
            due("7 - 7", calculated(x, sub(0, 0), 7, 1), 0);
            due("7 * 7", calculated(x, mul(0, 0), 7, 1), 49);
        });
        test("Terms: add, sub, mul change register r and not register s", x -> {
            for (Code statement : List.of(add(3, 0), sub(3, 0), mul(3, 0))) {
                due("register 0", calculated(x, statement, 6, 9), 6);
            }
        });
        test("Terms: procedures are 0 to 2, each with its own body", x -> {
            for (int p = 0; p <= 2; p++) {
                define(x, p, out(p));
            }
            load(x, 10, 11, 12);
            for (int p = 0; p <= 2; p++) {
                due("run", x.run(p), DONE);
                due("outs of procedure " + p, outs(x), List.of(10 + p));
            }
        });
        test("Terms: call p does the body of procedure p, for each of 0 to 2", x -> {
            for (int p = 0; p <= 2; p++) {
                UnwindCode y = new UnwindCode();
                int caller = (p + 1) % 3;
                define(y, p, out(p));
                define(y, caller, call(p));
                load(y, 10, 11, 12);
                due("run", y.run(caller), DONE);
                due("outs of procedure " + p, outs(y), List.of(10 + p));
            }
        });
    }

    /** Four whiles around a jump; behind the inner, second, third and outer one 1, 20, 30 and register 0 are put out. */
    private static void jumpInFourWhiles(UnwindCode x, Code jump) {
        Code inner = loop(0, seq(sub(0, 1), jump));
        Code second = loop(0, seq(inner, out(1)));
        Code third = loop(0, seq(second, out(2)));
        define(x, 0, seq(loop(0, seq(third, out(3))), out(0)));
        load(x, 2, 1, 20, 30);
        due("run", x.run(0), DONE);
    }

    private static void jumps() {
        List<List<Integer>> breaking = List.of(
                List.of(1, 1, 20, 30, 0), List.of(20, 20, 30, 0), List.of(30, 30, 0), List.of(1));
        List<List<Integer>> goingOn = List.of(List.of(1, 20, 30, 0), List.of(20, 30, 0), List.of(30, 0), List.of(0));
        for (int n = 0; n <= 3; n++) {
            int level = n;
            test("Terms: breaking n, n 0 to 3: " + n, x -> {
                jumpInFourWhiles(x, leave(level));
                due("outs", outs(x), breaking.get(level));
            });
            test("Terms: going on n, n 0 to 3: " + n, x -> {
                jumpInFourWhiles(x, goOn(level));
                due("outs", outs(x), goingOn.get(level));
            });
        }
    }

    /**
     * Tells how a statement of size statements ends, from what two whiles around it and a part behind them do.
     * Registers: 0 holds 10, 1 holds 11, 2 holds 77, 3 holds 1.
     */
    private static String wayOf(UnwindCode x, int size, Code statement) {
        Code inner = loop(3, seq(statement, seq(out(0), leave(1))));
        define(x, 0, seq(loop(3, seq(inner, seq(out(1), leave(0)))), out(3)));
        load(x, 10, 11, 77, 1);
        int outcome = x.run(0);
        if (outcome == THROWN) {
            return "throwing " + x.thrown();
        }
        if (outcome == TIRED) {
            return x.begun(0, size + 4) > 1 ? "going on 1" : "going on 0";
        }
        switch (x.outs()) {
            case 0: return "returning";
            case 1: return "breaking 1";
            default: return x.out(0) == 10 ? "normally" : "breaking 0";
        }
    }

    private static Map<String, Code> ways() {
        Map<String, Code> ways = new LinkedHashMap<>();
        ways.put("normally", skip());
        ways.put("throwing 77", raise(2));
        ways.put("breaking 0", leave(0));
        ways.put("breaking 1", leave(1));
        ways.put("going on 0", goOn(0));
        ways.put("going on 1", goOn(1));
        ways.put("returning", giveBack());
        return ways;
    }

    private static void waysOfEnding() {
        ways().forEach((way, a) -> {
            boolean normal = way.equals("normally");
            test("Terms: a simple statement ends " + way, x -> due("it", wayOf(x, 1, a), way));
            test("Terms: seq whose A ends " + way, x -> {
                due("with skip", wayOf(x, 3, seq(a, skip())), way);
                due("with return", wayOf(x, 3, seq(a, giveBack())), normal ? "returning" : way);
                due("begun of B", x.begun(0, 1), normal ? 1 : 0);
            });
            test("Terms: seq whose B ends " + way, x -> due("it", wayOf(x, 3, seq(skip(), a)), way));
            test("Terms: if, not 0, whose A ends " + way, x -> {
                due("it", wayOf(x, 3, when(0, a, raise(0))), way);
                due("begun of B", x.begun(0, 1), 0);
            });
            test("Terms: if, 0, whose B ends " + way, x -> {
                due("it", wayOf(x, 5, seq(set(1, 0), when(1, raise(0), a))), way);
                due("begun of A", x.begun(0, 1), 0);
            });
            test("Terms: catch whose A ends " + way, x -> {
                boolean caught = way.equals("throwing 77");
                due("it", wayOf(x, 3, guard(1, a, giveBack())), caught ? "returning" : way);
                due("begun of B", x.begun(0, 1), caught ? 1 : 0);
                due("register", x.register(1), caught ? 77 : 11);
            });
            test("Terms: catch whose B ends " + way, x -> due("it", wayOf(x, 3, guard(1, raise(3), a)), way));
            test("Terms: while whose A, with register r 0 afterwards, ends " + way, x -> {
                // Going on 1 becomes going on 0: the while around begins this one again, which then ends normally.
                Map<String, String> outside = Map.of("breaking 0", "normally", "going on 0", "normally",
                        "breaking 1", "breaking 0", "going on 1", "normally");
                due("it", wayOf(x, 4, loop(1, seq(set(1, 0), a))), outside.getOrDefault(way, way));
                due("begun of it", x.begun(0, 3), way.equals("going on 1") ? 2 : 1);
            });
            ways().forEach((other, b) -> test("Terms: lastly whose A ends " + way + " and B " + other, x -> {
                due("it", wayOf(x, 3, lastly(a, b)), other.equals("normally") ? way : other);
                due("begun of B is that of A", x.begun(0, 1), x.begun(0, 0));
            }));
        });
    }

    private static void statements() {
        test("Terms: if: only 0 is not 'not 0'", x -> {
            define(x, 0, when(0, out(1), out(2)));
            for (int value : new int[] {LEAST, -1, 0, 1, 256, 65536, GREATEST}) {
                load(x, value, 5, 6);
                x.run(0);
                due("outs with " + value, outs(x), List.of(value == 0 ? 6 : 5));
            }
        });
        test("Terms: while: register r is 0 at once: A is not done", x -> {
            define(x, 0, seq(loop(0, out(1)), out(2)));
            load(x, 0, 5, 6);
            due("run", x.run(0), DONE);
            due("outs", outs(x), List.of(6));
            due("steps", x.steps(), 3);
        });
        test("Terms: while: A is done for every number but 0", x -> {
            define(x, 0, loop(0, set(0, 0)));
            for (int value : new int[] {LEAST, -1, 1, 256, 65536, GREATEST}) {
                x.load(0, value);
                due("run", x.run(0), DONE);
                due("begun of A with " + value, x.begun(0, 0), 1);
            }
        });
        test("Terms: while: again and again is no new beginning of the while", x -> {
            define(x, 0, loop(0, sub(0, 1)));
            load(x, 5, 1);
            due("run", x.run(0), DONE);
            due("begun of A", x.begun(0, 0), 5);
            due("begun of the while", x.begun(0, 1), 1);
            due("steps", x.steps(), 6);
        });
        test("Terms: while: going on 0 looks at register r again and A is done once more", x -> {
            define(x, 0, loop(0, seq(sub(0, 1), goOn(0))));
            load(x, 3, 1);
            due("run", x.run(0), DONE);
            due("begun of go on", x.begun(0, 1), 3);
        });
        test("Terms: while: breaking 0 ends it though register r is not 0", x -> {
            define(x, 0, seq(loop(0, leave(0)), out(0)));
            x.load(0, 9);
            due("run", x.run(0), DONE);
            due("outs", outs(x), List.of(9));
            due("begun of break", x.begun(0, 0), 1);
        });
        test("Terms: while: going on n above 0 ends the inner while though its register is not 0", x -> {
            define(x, 0, loop(0, loop(1, seq(sub(0, 1), goOn(1)))));
            load(x, 3, 1);
            due("run", x.run(0), DONE);
            due("begun of the inner while", x.begun(0, 3), 3);
        });
        test("Terms: catch: a thrown 0 is caught too", x -> {
            define(x, 0, guard(1, raise(0), out(1)));
            load(x, 0, 8);
            due("run", x.run(0), DONE);
            due("outs", outs(x), List.of(0));
        });
        test("Terms: catch: it does not catch what its own B throws", x -> {
            define(x, 0, guard(1, raise(0), raise(2)));
            load(x, 5, 6, 7);
            due("run", x.run(0), THROWN);
            due("thrown", x.thrown(), 7);
            due("begun of B", x.begun(0, 1), 1);
            due("register 1", x.register(1), 5);
        });
        test("Terms: catch: the number is the one of the throw, not what the register became later", x -> {
            define(x, 0, guard(1, lastly(raise(0), set(0, 3)), out(1)));
            x.load(0, 5);
            due("run", x.run(0), DONE);
            due("outs", outs(x), List.of(5));
        });
        test("Terms: lastly: A's number is kept though B throws and catches another", x -> {
            define(x, 0, lastly(raise(0), guard(2, raise(1), out(2))));
            load(x, 5, 6);
            due("run", x.run(0), THROWN);
            due("thrown", x.thrown(), 5);
            due("outs", outs(x), List.of(6));
        });
        test("Terms: lastly inside lastly: each keeps its own A", x -> {
            define(x, 0, lastly(raise(0), guard(3, lastly(raise(1), lastly(raise(2), skip())), out(3))));
            load(x, 5, 6, 7);
            due("run", x.run(0), THROWN);
            due("thrown", x.thrown(), 5);
            due("outs", outs(x), List.of(7));
        });
        test("Terms: lastly that was done before is done anew", x -> {
            define(x, 0, loop(0, seq(lastly(sub(0, 1), out(0)), out(2))));
            load(x, 2, 1, 9);
            due("run", x.run(0), DONE);
            due("outs", outs(x), List.of(1, 9, 0, 9));
        });
        test("Terms: call: a body that ends normally, and one that returns: the call ends normally", x -> {
            for (Code body : List.of(skip(), giveBack())) {
                define(x, 1, body);
                due("it", wayOf(x, 1, call(1)), "normally");
            }
        });
        test("Terms: call: a body that throws: the call throws the same number", x -> {
            define(x, 1, raise(2));
            due("it", wayOf(x, 1, call(1)), "throwing 77");
            define(x, 1, seq(sub(2, 2), raise(2)));
            due("0", wayOf(x, 1, call(1)), "throwing 0");
        });
        test("Terms: call: a return goes no further than its own procedure", x -> {
            define(x, 2, giveBack());
            define(x, 1, seq(call(2), out(1)));
            define(x, 0, seq(call(1), out(0)));
            load(x, 5, 6);
            due("run", x.run(0), DONE);
            due("outs", outs(x), List.of(6, 5));
        });
    }

    // ---- Terms: numbers and refused calls

    private static void numbers() {
        test("Terms: 0 for the first one made: a new object", x -> due("simple", x.simple(SKIP, 0, 0), 0));
        test("Terms: 0 for the first one since the stack was emptied: discard", x -> {
            push(x, 3);
            x.discard();
            due("simple", x.simple(SKIP, 0, 0), 0);
        });
        test("Terms: 0 for the first one since the stack was emptied: procedure", x -> {
            define(x, 0, seq(skip(), skip()));
            due("simple", x.simple(SKIP, 0, 0), 0);
        });
        test("Terms: 0 for the first one since the stack was emptied: discard of an empty stack", x -> {
            x.discard();
            due("simple", x.simple(SKIP, 0, 0), 0);
            due("simple", x.simple(SKIP, 0, 0), 1);
        });
        test("Terms: loop of the only statement does not empty the stack: numbers go on", x -> {
            push(x, 1);
            due("loop", x.loop(0), 1);
            due("simple", x.simple(SKIP, 0, 0), 2);
        });
        test("Terms: join of the only two does not empty the stack: numbers go on", x -> {
            push(x, 2);
            due("join", x.join(SEQ, 0), 2);
            due("simple", x.simple(SKIP, 0, 0), 3);
        });
        test("Terms: refused procedures do not empty the stack: numbers go on", x -> {
            leave(0).put(x);
            due("procedure", x.procedure(3), BAD_ARG);
            due("procedure", x.procedure(0), BAD_LOOP);
            due("simple", x.simple(SKIP, 0, 0), 1);
            due("procedure", x.procedure(0), TOO_FEW);
            due("simple", x.simple(SKIP, 0, 0), 2);
        });
        test("Terms: refused statements take no number", x -> {
            push(x, 1);
            due("simple", x.simple(11, 0, 0), BAD_ARG);
            due("loop", x.loop(4), BAD_ARG);
            due("join", x.join(SEQ, 0), TOO_FEW);
            due("simple", x.simple(SKIP, 0, 0), 1);
        });
        test("Terms: runs and loads do not begin the numbers anew", x -> {
            push(x, 2);
            x.load(0, 1);
            x.run(0);
            due("simple", x.simple(SKIP, 0, 0), 2);
            due("depth", x.depth(), 3);
        });
    }

    /** Three bodies, a THROWN run with outs and calls, and other numbers loaded after it. */
    private static void rich(UnwindCode x) {
        define(x, 2, seq(out(1), raise(0)));
        define(x, 1, lastly(call(2), set(2, 8)));
        define(x, 0, seq(out(0), call(1)));
        load(x, 5, 6, 7, -1);
        x.run(0);
        load(x, 15, 16, 17, -11);
    }

    /** What the object tells now, and what it answers when it goes on: nothing of its state stays hidden. */
    private static List<String> tellAll(UnwindCode x) {
        List<String> told = new ArrayList<>();
        told.add(look(x));
        told.add("more " + x.simple(OUT, 3, 0));
        while (x.depth() > 1 && x.join(SEQ, 0) >= 0) {
            told.add("joined");
        }
        told.add("looped " + x.loop(3) + " " + x.procedure(1));
        told.add("left " + x.discard());
        for (int p = 0; p < 3; p++) {
            told.add("ran " + x.run(p) + " " + look(x));
        }
        return told;
    }

    private static void unchanged(String sentence, int answer, Test before, Call refused) {
        test("Terms: a refused call answers the code named and changes nothing: " + sentence, x -> {
            for (int state = 0; state < 2; state++) {
                UnwindCode y = new UnwindCode();
                UnwindCode z = new UnwindCode();
                for (UnwindCode object : List.of(y, z)) {
                    if (state == 1) {
                        rich(object);
                    }
                    before.on(object);
                }
                due("the refused call", refused.on(y), answer);
                due("what comes after it", tellAll(y), tellAll(z));
            }
        });
    }

    private static void refusals() {
        Test nothing = x -> { };
        Test one = x -> out(1).put(x);
        Test two = x -> {
            out(1).put(x);
            out(2).put(x);
        };
        Test full = x -> push(x, 20);
        Test fullWithOne = BoundaryTest::fillWithOne;
        Test badLoop = x -> leave(0).put(x);
        unchanged("simple, op", BAD_ARG, two, x -> x.simple(11, 0, 0));
        unchanged("simple, r", BAD_ARG, two, x -> x.simple(OUT, 4, 0));
        unchanged("simple, n", BAD_ARG, two, x -> x.simple(CALL, 0, 3));
        unchanged("simple, FULL", FULL, full, x -> x.simple(OUT, 0, 0));
        unchanged("simple, FULL with one on the stack", FULL, fullWithOne, x -> x.simple(OUT, 0, 0));
        unchanged("loop, r", BAD_ARG, two, x -> x.loop(4));
        unchanged("loop, FULL", FULL, full, x -> x.loop(0));
        unchanged("loop, FULL with one on the stack", FULL, fullWithOne, x -> x.loop(1));
        unchanged("loop, TOO_FEW", TOO_FEW, nothing, x -> x.loop(0));
        unchanged("join, op", BAD_ARG, two, x -> x.join(4, 0));
        unchanged("join, r", BAD_ARG, two, x -> x.join(CATCH, 4));
        unchanged("join, FULL", FULL, full, x -> x.join(SEQ, 0));
        unchanged("join, TOO_FEW with one", TOO_FEW, one, x -> x.join(SEQ, 0));
        unchanged("join, TOO_FEW with none", TOO_FEW, nothing, x -> x.join(SEQ, 0));
        unchanged("procedure, p", BAD_ARG, one, x -> x.procedure(3));
        unchanged("procedure, TOO_FEW with none", TOO_FEW, nothing, x -> x.procedure(0));
        unchanged("procedure, TOO_FEW with two", TOO_FEW, two, x -> x.procedure(0));
        unchanged("procedure, BAD_LOOP", BAD_LOOP, badLoop, x -> x.procedure(0));
        unchanged("load, r below", BAD_ARG, one, x -> x.load(-1, 99));
        unchanged("load, r above", BAD_ARG, one, x -> x.load(4, 99));
        unchanged("run, p below", BAD_ARG, one, x -> x.run(-1));
        unchanged("run, p above", BAD_ARG, one, x -> x.run(3));
        unchanged("begun, p", BAD_ARG, one, x -> x.begun(3, 0));
        unchanged("begun, number", BAD_ARG, one, x -> x.begun(0, 20));
        unchanged("register, r", 0, one, x -> x.register(4));
        unchanged("out, i", 0, one, x -> x.out(300));
    }

    // ---- Terms: runs

    /** The number of the first statement made behind the countdown of beginAt. */
    private static final int BEHIND = 2;

    /** Procedure 0 is a countdown and then the statement, which begins as step number first; register 1 holds 1. */
    private static void beginAt(UnwindCode x, int first, Code statement) {
        define(x, 0, seq(loop(0, sub(0, 1)), statement));
        load(x, first - 3, 1);
    }

    /** The last of the statement's steps is number 300 and then number 301; last is the number of what it begins. */
    private static void lastStep(String sentence, int steps, int last, int outcome, Code statement) {
        test("Terms: the 300th step is made: " + sentence, x -> {
            beginAt(x, 301 - steps, statement);
            due("run", x.run(0), outcome);
            due("outcome", x.outcome(), outcome);
            due("steps", x.steps(), 300);
            due("begun of the last", x.begun(0, BEHIND + last), 1);
        });
        test("Terms: where the 301st step would be made the run ends, TIRED: " + sentence, x -> {
            beginAt(x, 302 - steps, statement);
            due("run", x.run(0), TIRED);
            due("outcome", x.outcome(), TIRED);
            due("steps", x.steps(), 300);
            due("begun of the last", x.begun(0, BEHIND + last), 0);
            due("thrown", x.thrown(), 0);
            due("outs", x.outs(), 0);
        });
    }

    private static void tired() {
        lastStep("a simple statement", 1, 0, DONE, out(1));
        lastStep("A of seq", 2, 0, THROWN, seq(raise(1), skip()));
        lastStep("B of seq", 3, 1, DONE, seq(skip(), out(1)));
        lastStep("A of if", 2, 0, DONE, when(1, out(1), skip()));
        lastStep("B of if", 2, 1, DONE, when(0, skip(), out(1)));
        lastStep("A of while", 2, 0, DONE, loop(1, leave(0)));
        lastStep("A of catch", 2, 0, DONE, guard(2, out(1), skip()));
        lastStep("B of catch", 3, 1, DONE, guard(2, raise(1), out(1)));
        lastStep("B of lastly", 3, 1, DONE, lastly(skip(), out(1)));
        lastStep("B of lastly whose A throws", 3, 1, THROWN, lastly(raise(1), out(1)));
        lastStep("B of lastly whose A returns", 3, 1, DONE, lastly(giveBack(), out(1)));
        lastStep("what comes after a call", 4, 1, DONE, seq(call(2), out(1)));
        test("Terms: a run of no more than 300 steps: a while that looks at its register after the 300th", x -> {
            beginAt(x, 299, loop(1, set(1, 0)));
            due("run", x.run(0), DONE);
            due("steps", x.steps(), 300);
        });
        test("Terms: where the 301st step would be made: A of while once more", x -> {
            beginAt(x, 299, loop(1, skip()));
            due("run", x.run(0), TIRED);
            due("steps", x.steps(), 300);
            due("begun of A", x.begun(0, BEHIND), 1);
        });
        test("Terms: where the 301st step would be made: a while whose register is 0", x -> {
            beginAt(x, 300, loop(0, skip()));
            due("run", x.run(0), DONE);
            beginAt(x, 301, loop(0, skip()));
            due("run", x.run(0), TIRED);
        });
        test("Terms: where the 301st step would be made: the first statement of a called body", x -> {
            define(x, 1, out(1));
            beginAt(x, 299, call(1));
            due("run", x.run(0), DONE);
            due("steps", x.steps(), 300);
            beginAt(x, 300, call(1));
            due("run", x.run(0), TIRED);
            due("steps", x.steps(), 300);
            due("begun of the call", x.begun(0, BEHIND), 1);
            due("begun of the body", x.begun(1, 0), 0);
            due("deepest", x.deepest(), 1);
        });
        test("Terms: TIRED: the run ends there: no catch, no lastly, no caller goes on", x -> {
            define(x, 1, lastly(loop(1, skip()), out(1)));
            define(x, 0, seq(guard(2, lastly(call(1), out(1)), out(1)), out(1)));
            load(x, 0, 1, 5);
            due("run", x.run(0), TIRED);
            due("outs", x.outs(), 0);
            due("registers", registers(x), List.of(0, 1, 5, 0));
            due("steps", x.steps(), 300);
        });
        test("Terms: TIRED: the run before and the run after have 300 steps of their own", x -> {
            beginAt(x, 300, skip());
            due("run", x.run(0), DONE);
            due("run", x.run(0), DONE);
            x.load(0, 298);
            due("run", x.run(0), TIRED);
            x.load(0, 297);
            due("run", x.run(0), DONE);
            due("steps", x.steps(), 300);
        });
        test("Terms: TIRED: a THROWN run in its 300th step", x -> {
            beginAt(x, 300, raise(1));
            due("run", x.run(0), THROWN);
            due("thrown", x.thrown(), 1);
        });
    }

    /** Procedure 2 calls itself as often as register 0 says, one call inside the other. */
    private static void nestedCalls(UnwindCode x, int calls) {
        define(x, 2, when(0, seq(sub(0, 1), call(2)), skip()));
        load(x, calls, 1);
    }

    private static void deep() {
        test("Terms: a call while 7 calls have begun and not ended", x -> {
            nestedCalls(x, 8);
            due("run", x.run(2), DONE);
            due("deepest", x.deepest(), 8);
            due("begun of the call", x.begun(2, 1), 8);
            due("begun of the body", x.begun(2, 4), 9);
            due("steps", x.steps(), 8 * 4 + 2);
        });
        test("Terms: a call while 8 calls have begun and not ended: DEEP", x -> {
            nestedCalls(x, 9);
            due("run", x.run(2), DEEP);
            due("outcome", x.outcome(), DEEP);
            due("thrown", x.thrown(), 0);
            due("deepest", x.deepest(), 8);
            due("register 0", x.register(0), 0);
        });
        test("Terms: DEEP: the step of that call has been made", x -> {
            nestedCalls(x, 9);
            x.run(2);
            due("steps", x.steps(), 9 * 4);
            due("begun of the call", x.begun(2, 1), 9);
            due("begun of the body", x.begun(2, 4), 9);
        });
        test("Terms: DEEP: whichever procedures call and are called", x -> {
            define(x, 0, call(1));
            define(x, 1, call(2));
            define(x, 2, call(0));
            due("run", x.run(0), DEEP);
            due("deepest", x.deepest(), 8);
            due("begun", List.of(x.begun(0, 0), x.begun(1, 0), x.begun(2, 0)), List.of(3, 3, 3));
        });
        test("Terms: DEEP: the run ends there: no catch, no lastly, no caller goes on", x -> {
            define(x, 0, seq(guard(2, lastly(call(0), out(1)), out(1)), out(1)));
            load(x, 3, 1, 5, 4);
            due("run", x.run(0), DEEP);
            due("outs", x.outs(), 0);
            due("registers", registers(x), List.of(3, 1, 5, 4));
        });
        test("Terms: calls that have ended normally do not count", x -> {
            define(x, 1, loop(0, seq(sub(0, 1), call(2))));
            load(x, 20, 1);
            due("run", x.run(1), DONE);
            due("deepest", x.deepest(), 1);
        });
        test("Terms: calls that have ended by a return in them do not count", x -> {
            define(x, 2, giveBack());
            define(x, 1, loop(0, seq(sub(0, 1), call(2))));
            load(x, 20, 1);
            due("run", x.run(1), DONE);
            due("deepest", x.deepest(), 1);
        });
        test("Terms: calls that have ended throwing do not count", x -> {
            define(x, 2, raise(1));
            define(x, 1, loop(0, seq(sub(0, 1), guard(3, call(2), skip()))));
            load(x, 20, 1);
            due("run", x.run(1), DONE);
            due("deepest", x.deepest(), 1);
        });
        test("Terms: eight calls thrown out of at once have all ended", x -> {
            define(x, 2, when(0, seq(sub(0, 1), call(2)), raise(1)));
            Code eight = guard(3, call(2), set(0, 7));
            define(x, 1, seq(eight, call(2)));
            load(x, 7, 1);
            due("run", x.run(1), THROWN);
            due("deepest", x.deepest(), 8);
        });
        test("Terms: a run has its own count of calls: after a DEEP one eight are fine", x -> {
            nestedCalls(x, 9);
            due("run", x.run(2), DEEP);
            x.load(0, 8);
            due("run", x.run(2), DONE);
        });
        test("Terms: the ninth call in the 300th step: DEEP, its step has been made", x -> {
            define(x, 1, call(1));
            beginAt(x, 292, call(1));
            due("run", x.run(0), DEEP);
            due("steps", x.steps(), 300);
            due("begun of the call in the body", x.begun(1, 0), 8);
        });
        test("Terms: the ninth call where the 301st step would be made: TIRED", x -> {
            define(x, 1, call(1));
            beginAt(x, 293, call(1));
            due("run", x.run(0), TIRED);
            due("steps", x.steps(), 300);
            due("begun of the call in the body", x.begun(1, 0), 7);
            due("deepest", x.deepest(), 8);
        });
    }

    private static void runsInTerms() {
        test("Terms: a run begins with the registers as loaded, not as the run before left them", x -> {
            define(x, 0, seq(set(0, 50), seq(set(1, 51), seq(set(2, 52), set(3, 53)))));
            load(x, 1, 2, 3, 4);
            x.run(0);
            due("registers", registers(x), List.of(50, 51, 52, 53));
            x.run(1);
            due("registers", registers(x), List.of(1, 2, 3, 4));
        });
        test("Terms: DONE if it ends normally", x -> {
            define(x, 0, out(0));
            due("run", x.run(0), DONE);
        });
        test("Terms: DONE if it ends returning", x -> {
            define(x, 0, seq(giveBack(), out(0)));
            due("run", x.run(0), DONE);
            due("outs", x.outs(), 0);
        });
        test("Terms: THROWN if throwing, also 0", x -> {
            define(x, 0, raise(0));
            due("run", x.run(0), THROWN);
            x.load(0, -1);
            due("run", x.run(0), THROWN);
        });
    }

    // ---- Promise 1

    private static void newObject() {
        for (int p = 0; p <= 2; p++) {
            int body = p;
            test("Promise 1: all bodies are skip: " + p, x -> {
                due("run", x.run(body), DONE);
                due("steps", x.steps(), 1);
                due("begun", x.begun(body, 0), 1);
                due("no more statements", x.begun(body, 1), BAD_ARG);
                due("outs", x.outs(), 0);
                due("deepest", x.deepest(), 0);
            });
        }
        test("Promise 1: the stack is empty", x -> {
            due("depth", x.depth(), 0);
            due("loop", x.loop(0), TOO_FEW);
            due("procedure", x.procedure(0), TOO_FEW);
            due("discard", x.discard(), 0);
        });
        test("Promise 1: all registers are loaded with 0", x -> {
            x.run(0);
            due("registers", registers(x), List.of(0, 0, 0, 0));
        });
        test("Promise 1: there was no run", x -> {
            due("outcome", x.outcome(), NONE);
            due("the rest", look(x),
                    "depth 0 outcome -4 thrown 0 registers [0, 0, 0, 0] steps 0 outs 0 of [0, 0, 0, 0]"
                            + " deepest 0 begun 0 -1; 0 -1; 0 -1;");
        });
        test("Promise 1: objects have nothing in common", x -> {
            UnwindCode other = new UnwindCode();
            rich(other);
            push(other, 3);
            due("depth", x.depth(), 0);
            due("outcome", x.outcome(), NONE);
            due("run", x.run(0), DONE);
            due("steps", x.steps(), 1);
            due("registers", registers(x), List.of(0, 0, 0, 0));
            due("outs of the other", outs(other), List.of(5, 6));
        });
    }

    // ---- Promise 2

    private static void simpleArguments() {
        for (int op : new int[] {LEAST, -1, 11, 12, GREATEST}) {
            test("Promise 2: op not 0 to 10: " + op, x -> due("simple", x.simple(op, 0, 0), BAD_ARG));
        }
        for (int op : new int[] {SKIP, CALL}) {
            test("Promise 2: op 0 to 10: " + op, x -> due("simple", x.simple(op, 0, 0), 0));
        }
        for (int op = SET; op <= THROW; op++) {
            int code = op;
            for (int r : NO_REGISTERS) {
                test("Promise 2: op " + op + ", r not 0 to 3: " + r, x -> due("simple", x.simple(code, r, 0), BAD_ARG));
            }
            for (int r : new int[] {0, 3}) {
                test("Promise 2: op " + op + ", r 0 to 3: " + r, x -> due("simple", x.simple(code, r, 0), 0));
            }
        }
        for (int n : new int[] {LEAST, -101, 101, GREATEST}) {
            test("Promise 2: set, n not -100 to 100: " + n, x -> due("simple", x.simple(SET, 0, n), BAD_ARG));
        }
        for (int n : new int[] {-100, 0, 100}) {
            test("Promise 2: set, n -100 to 100: " + n, x -> {
                define(x, 0, set(2, n));
                x.load(2, 55);
                x.run(0);
                due("register", x.register(2), n);
            });
        }
        for (int op : new int[] {ADD, SUB, MUL, BREAK, GO_ON}) {
            for (int n : NO_REGISTERS) {
                test("Promise 2: op " + op + ", n not 0 to 3: " + n, x -> due("simple", x.simple(op, 0, n), BAD_ARG));
            }
            for (int n : new int[] {0, 3}) {
                test("Promise 2: op " + op + ", n 0 to 3: " + n, x -> due("simple", x.simple(op, 0, n), 0));
            }
        }
        for (int n : NO_PROCEDURES) {
            test("Promise 2: call, n not 0 to 2: " + n, x -> due("simple", x.simple(CALL, 0, n), BAD_ARG));
        }
        for (int n : new int[] {0, 2}) {
            test("Promise 2: call, n 0 to 2: " + n, x -> due("simple", x.simple(CALL, 0, n), 0));
        }
    }

    private static void simpleOfNoUse() {
        for (int op : new int[] {SKIP, BREAK, GO_ON, RETURN, CALL}) {
            test("Promise 2: an r that op " + op + " has no use for does not matter", x -> {
                for (int r : NO_REGISTERS) {
                    due("simple", x.simple(op, r, 0) >= 0, true);
                }
                x.discard();
                taken(x.simple(op, GREATEST, 0));
                taken(x.loop(0));
                due("procedure", x.procedure(0), 2);
                x.load(0, 1);
                due("run", x.run(0) >= DONE, true);
            });
        }
        for (int op : new int[] {SKIP, OUT, THROW, RETURN}) {
            test("Promise 2: an n that op " + op + " has no use for does not matter", x -> {
                for (int n : new int[] {LEAST, -101, -1, 4, 101, GREATEST}) {
                    due("simple", x.simple(op, 0, n) >= 0, true);
                }
                x.discard();
                taken(x.simple(op, 0, LEAST));
                due("procedure", x.procedure(0), 1);
                due("run", x.run(0), op == THROW ? THROWN : DONE);
                due("outs", x.outs(), op == OUT ? 1 : 0);
            });
        }
        test("Promise 2: r and n of no use do not matter either when FULL", x -> {
            push(x, 20);
            due("skip", x.simple(SKIP, 4, 999), FULL);
            due("out", x.simple(OUT, 3, 999), FULL);
            due("return", x.simple(RETURN, -1, -999), FULL);
            due("call", x.simple(CALL, -1, 2), FULL);
        });
    }

    private static void simpleFull() {
        test("Promise 2: the 20th statement is made", x -> {
            push(x, 19);
            due("simple", x.simple(SKIP, 0, 0), 19);
            due("depth", x.depth(), 20);
        });
        test("Promise 2: 20 statements were made: FULL", x -> {
            push(x, 20);
            due("simple", x.simple(SKIP, 0, 0), FULL);
            due("depth", x.depth(), 20);
        });
        test("Promise 2: 20 statements were made, one of them on the stack: FULL", x -> {
            fillWithOne(x);
            due("depth", x.depth(), 1);
            due("simple", x.simple(SKIP, 0, 0), FULL);
        });
        test("Promise 2: emptied by discard: 20 more", x -> {
            push(x, 20);
            due("discard", x.discard(), 20);
            push(x, 20);
            due("simple", x.simple(SKIP, 0, 0), FULL);
        });
        test("Promise 2: emptied by procedure: 20 more", x -> {
            fillWithOne(x);
            due("procedure", x.procedure(0), 20);
            push(x, 20);
            due("simple", x.simple(SKIP, 0, 0), FULL);
        });
        test("Promise 2: not emptied by a refused procedure: still FULL", x -> {
            push(x, 20);
            due("procedure", x.procedure(0), TOO_FEW);
            due("simple", x.simple(SKIP, 0, 0), FULL);
            due("procedure", x.procedure(3), BAD_ARG);
            due("simple", x.simple(SKIP, 0, 0), FULL);
        });
        test("Promise 2: not emptied by a procedure refused for a bad loop: still FULL", x -> {
            badLoopOfTwenty(x);
            due("procedure", x.procedure(0), BAD_LOOP);
            due("simple", x.simple(SKIP, 0, 0), FULL);
        });
        test("Promise 2: not emptied by a run: still FULL", x -> {
            push(x, 20);
            x.run(0);
            due("simple", x.simple(SKIP, 0, 0), FULL);
        });
    }

    /** Twenty statements made, one of them on the stack, with a break in too few whiles. */
    private static void badLoopOfTwenty(UnwindCode x) {
        seq(loop(0, skip()), leave(0)).put(x);
        for (int i = 0; i < 8; i++) {
            skip().put(x);
            taken(x.join(SEQ, 0));
        }
    }

    private static void simpleOrder() {
        test("Promise 2, order: op before r and n", x -> {
            due("op and r", x.simple(11, 4, 0), BAD_ARG);
            due("op and n", x.simple(-1, 0, 101), BAD_ARG);
            due("op, r and n", x.simple(11, 4, 101), BAD_ARG);
        });
        test("Promise 2, order: r before n", x -> {
            for (int op = SET; op <= MUL; op++) {
                due("r and n of op " + op, x.simple(op, 4, 101), BAD_ARG);
            }
        });
        test("Promise 2, order: op before FULL", x -> {
            push(x, 20);
            due("below", x.simple(-1, 0, 0), BAD_ARG);
            due("above", x.simple(11, 0, 0), BAD_ARG);
        });
        test("Promise 2, order: r before FULL", x -> {
            push(x, 20);
            for (int op = SET; op <= THROW; op++) {
                due("below, op " + op, x.simple(op, -1, 0), BAD_ARG);
                due("above, op " + op, x.simple(op, 4, 0), BAD_ARG);
            }
        });
        test("Promise 2, order: n before FULL", x -> {
            push(x, 20);
            due("set", x.simple(SET, 0, 101), BAD_ARG);
            due("set", x.simple(SET, 0, -101), BAD_ARG);
            for (int op : new int[] {ADD, SUB, MUL, BREAK, GO_ON}) {
                due("below, op " + op, x.simple(op, 0, -1), BAD_ARG);
                due("above, op " + op, x.simple(op, 0, 4), BAD_ARG);
            }
            due("call", x.simple(CALL, 0, -1), BAD_ARG);
            due("call", x.simple(CALL, 0, 3), BAD_ARG);
        });
        test("Promise 2, order: op, r and n before FULL", x -> {
            push(x, 20);
            due("all", x.simple(11, 4, 101), BAD_ARG);
            due("r and n", x.simple(SET, 4, 101), BAD_ARG);
        });
    }

    // ---- Promises 3 and 4

    private static void loopEdges() {
        for (int r : NO_REGISTERS) {
            test("Promise 3: r not 0 to 3: " + r, x -> {
                push(x, 1);
                due("loop", x.loop(r), BAD_ARG);
            });
        }
        for (int r = 0; r <= 3; r++) {
            int register = r;
            test("Promise 3: r 0 to 3: " + r, x -> {
                push(x, 1);
                due("loop", x.loop(register), 1);
                due("procedure", x.procedure(0), 2);
                due("run", x.run(0), DONE);
                x.load(register, 1);
                due("run", x.run(0), TIRED);
            });
        }
        test("Promise 3: an empty stack answers TOO_FEW", x -> due("loop", x.loop(0), TOO_FEW));
        test("Promise 3: an empty stack answers TOO_FEW: after discard and after procedure", x -> {
            push(x, 2);
            x.discard();
            due("loop", x.loop(0), TOO_FEW);
            define(x, 0, skip());
            due("loop", x.loop(0), TOO_FEW);
        });
        test("Promise 3: one statement is enough, and only the top one is taken off", x -> {
            push(x, 1);
            due("loop", x.loop(0), 1);
            due("depth", x.depth(), 1);
            out(1).put(x);
            due("loop", x.loop(0), 3);
            due("depth", x.depth(), 2);
            due("discard", x.discard(), 2);
        });
        test("Promise 3: FULL as for simple: the 20th is made, the 21st not", x -> {
            push(x, 19);
            due("loop", x.loop(0), 19);
            due("loop", x.loop(0), FULL);
            due("depth", x.depth(), 19);
        });
        test("Promise 3, order: r before FULL", x -> {
            push(x, 20);
            due("below", x.loop(-1), BAD_ARG);
            due("above", x.loop(4), BAD_ARG);
        });
        test("Promise 3, order: r before TOO_FEW", x -> {
            due("below", x.loop(-1), BAD_ARG);
            due("above", x.loop(4), BAD_ARG);
        });
    }

    private static void joinEdges() {
        for (int op : new int[] {LEAST, -1, 4, GREATEST}) {
            test("Promise 4: op not 0 to 3: " + op, x -> {
                push(x, 2);
                due("join", x.join(op, 0), BAD_ARG);
            });
        }
        for (int op : new int[] {IF, CATCH}) {
            for (int r : NO_REGISTERS) {
                test("Promise 4: op " + op + ", r not 0 to 3: " + r, x -> {
                    push(x, 2);
                    due("join", x.join(op, r), BAD_ARG);
                });
            }
            for (int r : new int[] {0, 3}) {
                test("Promise 4: op " + op + ", r 0 to 3: " + r, x -> {
                    push(x, 2);
                    due("join", x.join(op, r), 2);
                });
            }
        }
        for (int op : new int[] {SEQ, LASTLY}) {
            for (int r : NO_REGISTERS) {
                test("Promise 4: op " + op + " has no use for r: " + r, x -> {
                    push(x, 2);
                    due("join", x.join(op, r), 2);
                    due("procedure", x.procedure(0), 3);
                    due("run", x.run(0), DONE);
                    due("steps", x.steps(), 3);
                });
            }
        }
        for (int op = SEQ; op <= LASTLY; op++) {
            int code = op;
            test("Promise 4: fewer than two statements, op " + op, x -> {
                due("join of none", x.join(code, 0), TOO_FEW);
                push(x, 1);
                due("join of one", x.join(code, 0), TOO_FEW);
                push(x, 1);
                due("join of two", x.join(code, 0), 2);
                due("join of the one that is left", x.join(code, 0), TOO_FEW);
            });
            test("Promise 4: FULL as for simple: the 20th is made, the 21st not, op " + op, x -> {
                push(x, 19);
                due("join", x.join(code, 0), 19);
                due("join", x.join(code, 0), FULL);
                due("depth", x.depth(), 18);
            });
        }
        test("Promise 4: A lies below B, and what lies below A stays", x -> {
            push(x, 1);
            out(1).put(x);
            out(2).put(x);
            due("join", x.join(SEQ, 0), 3);
            due("depth", x.depth(), 2);
            due("join", x.join(SEQ, 0), 4);
            x.procedure(0);
            load(x, 0, 5, 6);
            x.run(0);
            due("outs", outs(x), List.of(5, 6));
        });
    }

    private static void joinOrder() {
        test("Promise 4, order: op before r", x -> {
            push(x, 2);
            due("join", x.join(4, 4), BAD_ARG);
        });
        test("Promise 4, order: op before FULL", x -> {
            push(x, 20);
            due("below", x.join(-1, 0), BAD_ARG);
            due("above", x.join(4, 0), BAD_ARG);
        });
        test("Promise 4, order: r before FULL", x -> {
            push(x, 20);
            due("if", x.join(IF, 4), BAD_ARG);
            due("catch", x.join(CATCH, -1), BAD_ARG);
        });
        test("Promise 4, order: op before TOO_FEW", x -> {
            due("none", x.join(4, 0), BAD_ARG);
            push(x, 1);
            due("one", x.join(-1, 0), BAD_ARG);
        });
        test("Promise 4, order: r before TOO_FEW", x -> {
            due("none", x.join(IF, 4), BAD_ARG);
            push(x, 1);
            due("one", x.join(CATCH, -1), BAD_ARG);
        });
        test("Promise 4, order: FULL before TOO_FEW", x -> {
            fillWithOne(x);
            for (int op = SEQ; op <= LASTLY; op++) {
                due("op " + op, x.join(op, 0), FULL);
            }
        });
        test("Promise 4, order: op and r before FULL and TOO_FEW", x -> {
            fillWithOne(x);
            due("op", x.join(4, 0), BAD_ARG);
            due("r", x.join(IF, 4), BAD_ARG);
        });
        test("Promise 4, order: a seq or lastly with an r of no use is FULL or TOO_FEW", x -> {
            due("seq", x.join(SEQ, 4), TOO_FEW);
            due("lastly", x.join(LASTLY, -1), TOO_FEW);
            push(x, 20);
            due("seq", x.join(SEQ, 4), FULL);
            due("lastly", x.join(LASTLY, -1), FULL);
        });
    }

    // ---- Promises 5 to 7

    private static void depthAndDiscard() {
        test("Promise 5: how many are on the stack: none, one, twenty", x -> {
            due("depth", x.depth(), 0);
            push(x, 1);
            due("depth", x.depth(), 1);
            push(x, 19);
            due("depth", x.depth(), 20);
        });
        test("Promise 5: statements that others are made of are not on the stack", x -> {
            push(x, 3);
            x.loop(0);
            due("depth", x.depth(), 3);
            x.join(SEQ, 0);
            due("depth", x.depth(), 2);
        });
        test("Promise 6: discard of an empty stack answers 0", x -> {
            due("discard", x.discard(), 0);
            due("discard", x.discard(), 0);
            due("depth", x.depth(), 0);
        });
        test("Promise 6: discard of a full stack answers 20", x -> {
            push(x, 20);
            due("discard", x.discard(), 20);
            due("depth", x.depth(), 0);
        });
        test("Promise 6: it answers how many there were, not how many were made", x -> {
            push(x, 3);
            x.join(SEQ, 0);
            due("discard", x.discard(), 2);
        });
        test("Promise 6: bodies and the last run stay", x -> {
            rich(x);
            String before = look(x);
            push(x, 20);
            x.discard();
            due("all", look(x), before);
            load(x, 5, 6, 7, -1);
            x.run(0);
            due("all", look(x), before);
        });
    }

    private static void procedureEdges() {
        for (int p : NO_PROCEDURES) {
            test("Promise 7: p not 0 to 2: " + p, x -> {
                push(x, 1);
                due("procedure", x.procedure(p), BAD_ARG);
            });
        }
        for (int p = 0; p <= 2; p++) {
            int body = p;
            test("Promise 7: p 0 to 2: " + p, x -> {
                out(1).put(x);
                due("procedure", x.procedure(body), 1);
                x.load(1, 4);
                x.run(body);
                due("outs", outs(x), List.of(4));
            });
        }
        for (int count : new int[] {0, 2, 3, 20}) {
            test("Promise 7: not just one statement: " + count, x -> {
                push(x, count);
                due("procedure", x.procedure(0), TOO_FEW);
                due("depth", x.depth(), count);
            });
        }
        test("Promise 7: the least body has 1 statement, the greatest 20", x -> {
            push(x, 1);
            due("procedure", x.procedure(0), 1);
            fillWithOne(x);
            due("procedure", x.procedure(0), 20);
        });
        test("Promise 7: the stack is empty afterwards", x -> {
            define(x, 0, seq(skip(), skip()));
            due("depth", x.depth(), 0);
            due("procedure", x.procedure(1), TOO_FEW);
        });
        test("Promise 7: with all statements that it is made of and their numbers", x -> {
            define(x, 0, loop(0, seq(sub(0, 1), when(0, out(0), giveBack()))));
            load(x, 3, 1);
            x.run(0);
            List<Integer> begun = new ArrayList<>();
            for (int number = 0; number < 6; number++) {
                begun.add(x.begun(0, number));
            }
            due("begun", begun, List.of(3, 2, 1, 3, 3, 1));
            due("outs", outs(x), List.of(2, 1));
        });
        test("Promise 7: the numbers count refused and discarded ones as if they had not been", x -> {
            push(x, 5);
            x.discard();
            out(0).put(x);
            x.simple(11, 0, 0);
            raise(0).put(x);
            x.join(SEQ, 0);
            due("procedure", x.procedure(0), 3);
            x.run(0);
            due("begun", List.of(x.begun(0, 0), x.begun(0, 1), x.begun(0, 2)), List.of(1, 1, 1));
        });
        test("Promise 7: a body stays as it is when new statements are made", x -> {
            define(x, 0, seq(out(0), out(1)));
            load(x, 5, 6);
            raise(2).put(x);
            raise(2).put(x);
            x.join(LASTLY, 0);
            x.run(0);
            due("outs", outs(x), List.of(5, 6));
            due("procedure", x.procedure(1), 3);
            x.run(0);
            due("outs", outs(x), List.of(5, 6));
        });
        test("Promise 7: a new body takes the place of the old one, also in calls", x -> {
            define(x, 0, call(1));
            define(x, 1, seq(out(0), out(1)));
            load(x, 5, 6);
            x.run(0);
            due("outs", outs(x), List.of(5, 6));
            define(x, 1, out(1));
            x.run(0);
            due("outs", outs(x), List.of(6));
        });
    }

    private static Code inWhiles(int whiles, Code inside) {
        Code code = inside;
        for (int i = 0; i < whiles; i++) {
            code = loop(0, code);
        }
        return code;
    }

    private static void badLoops() {
        for (int n = 0; n <= 3; n++) {
            int level = n;
            for (int op : new int[] {BREAK, GO_ON}) {
                String jump = (op == BREAK ? "break " : "go on ") + n;
                test("Promise 7: " + jump + " in fewer than n + 1 whiles", x -> {
                    for (int whiles = 0; whiles <= level; whiles++) {
                        inWhiles(whiles, simple(op, 0, level)).put(x);
                        due("in " + whiles, x.procedure(0), BAD_LOOP);
                        x.discard();
                    }
                });
                test("Promise 7: " + jump + " in n + 1 whiles and in more", x -> {
                    for (int whiles = level + 1; whiles <= 6; whiles++) {
                        inWhiles(whiles, simple(op, 0, level)).put(x);
                        due("in " + whiles, x.procedure(0), whiles + 1);
                    }
                });
            }
        }
        for (int op = SEQ; op <= LASTLY; op++) {
            int code = op;
            test("Promise 7: some break in it, in A of join " + op, x -> {
                loop(0, join(code, 0, leave(1), skip())).put(x);
                due("in one while", x.procedure(0), BAD_LOOP);
                x.loop(0);
                due("in two", x.procedure(0), 5);
            });
            test("Promise 7: some go on in it, in B of join " + op, x -> {
                loop(0, join(code, 0, skip(), goOn(1))).put(x);
                due("in one while", x.procedure(0), BAD_LOOP);
                x.loop(0);
                due("in two", x.procedure(0), 5);
            });
        }
        test("Promise 7: one bad break among good ones, wherever it stands", x -> {
            seq(leave(0), loop(0, leave(0))).put(x);
            due("before", x.procedure(0), BAD_LOOP);
            x.discard();
            seq(loop(0, leave(0)), leave(0)).put(x);
            due("behind", x.procedure(0), BAD_LOOP);
            x.discard();
            loop(0, seq(leave(0), leave(1))).put(x);
            due("beside", x.procedure(0), BAD_LOOP);
        });
        test("Promise 7: whiles beside it and inside others do not lie around it", x -> {
            loop(0, seq(loop(0, loop(0, skip())), leave(1))).put(x);
            due("beside", x.procedure(0), BAD_LOOP);
            x.discard();
            loop(0, seq(leave(1), loop(0, leave(1)))).put(x);
            due("one of two", x.procedure(0), BAD_LOOP);
        });
        test("Promise 7: whiles of it: not those around a call of it", x -> {
            define(x, 1, loop(0, call(0)));
            leave(0).put(x);
            due("procedure", x.procedure(0), BAD_LOOP);
        });
        test("Promise 7: a break of another procedure does not matter to one that calls it", x -> {
            define(x, 0, loop(0, leave(0)));
            call(0).put(x);
            due("procedure", x.procedure(1), 1);
        });
        test("Promise 7: statements from before the stack was emptied do not matter", x -> {
            inWhiles(2, leave(1)).put(x);
            x.discard();
            leave(0).put(x);
            due("procedure", x.procedure(0), BAD_LOOP);
            x.discard();
            push(x, 1);
            due("procedure", x.procedure(0), 1);
        });
        test("Promise 7: a body refused with BAD_LOOP can be put into a while", x -> {
            leave(0).put(x);
            due("procedure", x.procedure(0), BAD_LOOP);
            due("loop", x.loop(0), 1);
            due("procedure", x.procedure(0), 2);
        });
    }

    private static void procedureOrder() {
        test("Promise 7, order: p before TOO_FEW", x -> {
            due("none", x.procedure(3), BAD_ARG);
            push(x, 2);
            due("two", x.procedure(-1), BAD_ARG);
        });
        test("Promise 7, order: p before BAD_LOOP", x -> {
            leave(0).put(x);
            due("below", x.procedure(-1), BAD_ARG);
            due("above", x.procedure(3), BAD_ARG);
        });
        test("Promise 7, order: TOO_FEW before BAD_LOOP", x -> {
            leave(0).put(x);
            push(x, 1);
            due("below", x.procedure(0), TOO_FEW);
            x.discard();
            push(x, 1);
            goOn(3).put(x);
            due("on top", x.procedure(0), TOO_FEW);
        });
        test("Promise 7, order: p before TOO_FEW and BAD_LOOP", x -> {
            leave(0).put(x);
            leave(0).put(x);
            due("procedure", x.procedure(3), BAD_ARG);
        });
    }

    // ---- Promises 8 to 13

    private static void loadEdges() {
        for (int r : NO_REGISTERS) {
            test("Promise 8: r not 0 to 3: " + r, x -> due("load", x.load(r, 1), BAD_ARG));
        }
        for (int r = 0; r <= 3; r++) {
            int register = r;
            test("Promise 8: r 0 to 3, v any int: " + r, x -> {
                for (int v : new int[] {LEAST, -1, 0, 1, GREATEST}) {
                    due("load", x.load(register, v), 0);
                    x.run(0);
                    due("register", x.register(register), v);
                    due("another", x.register((register + 1) % 4), 0);
                }
            });
        }
        test("Promise 8: for the runs to come: not for the last one", x -> {
            x.load(0, 5);
            x.run(0);
            x.load(0, 6);
            due("register", x.register(0), 5);
        });
        test("Promise 8: for the runs to come: for all of them", x -> {
            define(x, 0, set(0, 9));
            x.load(0, 5);
            x.run(0);
            x.run(1);
            due("register", x.register(0), 5);
            x.run(2);
            due("register", x.register(0), 5);
        });
        test("Promise 8: the last load of a register counts", x -> {
            x.load(2, 5);
            x.load(2, 6);
            x.run(0);
            due("register", x.register(2), 6);
        });
    }

    private static void runEdges() {
        for (int p : NO_PROCEDURES) {
            test("Promise 9: p not 0 to 2, no run before: " + p, x -> {
                due("run", x.run(p), BAD_ARG);
                due("outcome", x.outcome(), NONE);
                due("steps", x.steps(), 0);
            });
            test("Promise 9: p not 0 to 2, the last run is remembered as before: " + p, x -> {
                rich(x);
                String before = look(x);
                due("run", x.run(p), BAD_ARG);
                due("all", look(x), before);
                due("outcome", x.outcome(), THROWN);
            });
        }
        test("Promise 9: otherwise how the run ends: each of the four", x -> {
            define(x, 0, when(0, raise(0), loop(1, skip())));
            define(x, 1, call(1));
            due("DONE", x.run(0), DONE);
            x.load(0, 1);
            due("THROWN", x.run(0), THROWN);
            load(x, 0, 1);
            due("TIRED", x.run(0), TIRED);
            due("DEEP", x.run(1), DEEP);
        });
        test("Promise 9: statements on the stack do not matter to a run, nor it to them", x -> {
            define(x, 0, out(0));
            raise(0).put(x);
            raise(0).put(x);
            due("run", x.run(0), DONE);
            due("depth", x.depth(), 2);
            due("join", x.join(SEQ, 0), 2);
            due("procedure", x.procedure(0), 3);
            due("run", x.run(0), THROWN);
        });
        test("Promise 9: the same run twice answers the same", x -> {
            rich(x);
            x.run(0);
            String before = look(x);
            x.run(0);
            due("all", look(x), before);
        });
    }

    private static void lastRunEdges() {
        test("Promise 10: NONE if there was none, whatever else was done", x -> {
            due("outcome", x.outcome(), NONE);
            define(x, 0, raise(0));
            x.load(0, 1);
            due("outcome", x.outcome(), NONE);
        });
        test("Promise 10: the last run, not an earlier one", x -> {
            define(x, 0, raise(0));
            x.run(0);
            due("outcome", x.outcome(), THROWN);
            x.run(1);
            due("outcome", x.outcome(), DONE);
        });
        test("Promise 10: a new body or load does not change how the last run ended", x -> {
            define(x, 0, raise(0));
            x.run(0);
            define(x, 0, skip());
            x.load(0, 4);
            due("outcome", x.outcome(), THROWN);
        });
        test("Promise 11: 0 if there was no run", x -> due("thrown", x.thrown(), 0));
        test("Promise 11: the number that was thrown: least, greatest, 0", x -> {
            define(x, 0, raise(3));
            for (int v : new int[] {LEAST, GREATEST, -1, 0}) {
                x.load(3, v);
                due("run", x.run(0), THROWN);
                due("thrown", x.thrown(), v);
            }
        });
        test("Promise 11: 0 if the last run is DONE, after a THROWN one and after a catch", x -> {
            define(x, 0, raise(0));
            x.load(0, 5);
            x.run(0);
            x.run(1);
            due("thrown", x.thrown(), 0);
            define(x, 0, guard(1, raise(0), skip()));
            x.run(0);
            due("thrown", x.thrown(), 0);
        });
        test("Promise 11: 0 if the last run is DONE by a return in a lastly", x -> {
            define(x, 0, lastly(raise(0), giveBack()));
            x.load(0, 5);
            due("run", x.run(0), DONE);
            due("thrown", x.thrown(), 0);
        });
        test("Promise 11: 0 if the last run is TIRED or DEEP while a number was on its way", x -> {
            define(x, 0, lastly(raise(0), loop(0, skip())));
            x.load(0, 5);
            due("run", x.run(0), TIRED);
            due("thrown", x.thrown(), 0);
            define(x, 0, lastly(raise(0), call(0)));
            due("run", x.run(0), DEEP);
            due("thrown", x.thrown(), 0);
        });
        test("Promise 12: 0 if there was no run, though loaded", x -> {
            load(x, 1, 2, 3, 4);
            due("registers", registers(x), List.of(0, 0, 0, 0));
        });
        for (int r : NO_REGISTERS) {
            test("Promise 12: 0 if r is not 0 to 3: " + r, x -> {
                due("register without a run", x.register(r), 0);
                load(x, 1, 2, 3, 4);
                x.run(0);
                due("register", x.register(r), 0);
            });
        }
        test("Promise 12: at the end of a run, however it ended", x -> {
            define(x, 0, seq(set(0, 9), raise(0)));
            x.run(0);
            due("THROWN", x.register(0), 9);
            define(x, 0, seq(set(0, 8), loop(0, skip())));
            x.run(0);
            due("TIRED", x.register(0), 8);
            define(x, 0, seq(set(0, 7), call(0)));
            x.run(0);
            due("DEEP", x.register(0), 7);
        });
        test("Promise 13: 0 if there was no run", x -> {
            define(x, 0, seq(skip(), skip()));
            due("steps", x.steps(), 0);
        });
        test("Promise 13: the least is 1, the greatest 300", x -> {
            x.run(0);
            due("steps", x.steps(), 1);
            define(x, 0, loop(0, skip()));
            x.load(0, 1);
            x.run(0);
            due("steps", x.steps(), 300);
        });
        test("Promise 13: every statement that is begun is a step, calls and their bodies too", x -> {
            define(x, 1, seq(skip(), giveBack()));
            define(x, 0, lastly(guard(0, call(1), skip()), when(0, skip(), skip())));
            x.run(0);
            due("steps", x.steps(), 8);
        });
    }

    // ---- Promises 14 and 18

    private static void begunEdges() {
        for (int p : NO_PROCEDURES) {
            test("Promises 14 and 18: BAD_ARG if p is not 0 to 2, with and without a run: " + p, x -> {
                due("begun without a run", x.begun(p, 0), BAD_ARG);
                x.run(0);
                due("begun", x.begun(p, 0), BAD_ARG);
            });
        }
        for (int number : new int[] {LEAST, -1, 3, 20, GREATEST}) {
            test("Promises 14 and 18: BAD_ARG if there is no such statement, with and without a run: " + number, x -> {
                for (int p = 0; p <= 2; p++) {
                    define(x, p, seq(skip(), skip()));
                    due("begun without a run", x.begun(p, number), BAD_ARG);
                }
                x.run(0);
                for (int p = 0; p <= 2; p++) {
                    due("begun", x.begun(p, number), BAD_ARG);
                }
            });
        }
        test("Promise 14: 0 if there was no run", x -> {
            define(x, 0, seq(skip(), skip()));
            for (int number = 0; number < 3; number++) {
                due("begun " + number, x.begun(0, number), 0);
            }
        });
        test("Promise 18: BAD_ARG before all else: number 0 of a bad p, bad number of a good p", x -> {
            due("p", x.begun(3, 0), BAD_ARG);
            due("number", x.begun(0, 1), BAD_ARG);
            due("both", x.begun(-1, -1), BAD_ARG);
        });
        test("Promise 18: BAD_ARG before 'defined after the run'", x -> {
            x.run(0);
            define(x, 0, seq(skip(), skip()));
            due("begun 2", x.begun(0, 2), 0);
            due("begun 3", x.begun(0, 3), BAD_ARG);
        });
        test("Promise 14: the greatest number there can be is 19", x -> {
            fillWithOne(x);
            x.procedure(2);
            due("begun 19", x.begun(2, 19), 0);
            due("begun 20", x.begun(2, 20), BAD_ARG);
            x.run(2);
            due("begun 19", x.begun(2, 19), 1);
            due("begun 18", x.begun(2, 18), 0);
            due("begun 20", x.begun(2, 20), BAD_ARG);
        });
        test("Promise 14: how often: 0 for what was left out, 299 for A of an endless while", x -> {
            define(x, 0, seq(loop(0, skip()), out(0)));
            x.load(0, 1);
            x.run(0);
            due("begun", List.of(x.begun(0, 0), x.begun(0, 1), x.begun(0, 2), x.begun(0, 3)), List.of(298, 1, 0, 1));
            define(x, 0, loop(0, skip()));
            x.run(0);
            due("begun of A", x.begun(0, 0), 299);
        });
        test("Promise 14: the last run, not an earlier one", x -> {
            x.run(0);
            x.run(1);
            due("begun", List.of(x.begun(0, 0), x.begun(1, 0), x.begun(2, 0)), List.of(0, 1, 0));
        });
        test("Promise 14: looked up in the procedure as it is now: a shorter body", x -> {
            define(x, 0, seq(skip(), skip()));
            x.run(0);
            define(x, 0, skip());
            due("begun 0", x.begun(0, 0), 0);
            due("begun 1", x.begun(0, 1), BAD_ARG);
            due("begun 2", x.begun(0, 2), BAD_ARG);
        });
        test("Promise 14: looked up in the procedure as it is now: a longer body", x -> {
            x.run(0);
            due("begun 1", x.begun(0, 1), BAD_ARG);
            define(x, 0, seq(skip(), skip()));
            for (int number = 0; number < 3; number++) {
                due("begun " + number, x.begun(0, number), 0);
            }
        });
        test("Promise 14: 0 if that was defined after the run, though with the same body", x -> {
            define(x, 0, skip());
            x.run(0);
            due("begun", x.begun(0, 0), 1);
            define(x, 0, skip());
            due("begun", x.begun(0, 0), 0);
            x.run(0);
            due("begun", x.begun(0, 0), 1);
        });
        test("Promise 14: the other procedures keep their counts when one is defined after the run", x -> {
            define(x, 1, call(2));
            define(x, 0, call(1));
            x.run(0);
            define(x, 1, skip());
            due("begun", List.of(x.begun(0, 0), x.begun(1, 0), x.begun(2, 0)), List.of(1, 0, 1));
        });
        test("Promise 14: a refused definition after the run is none", x -> {
            x.run(0);
            leave(0).put(x);
            due("procedure", x.procedure(0), BAD_LOOP);
            due("begun", x.begun(0, 0), 1);
            push(x, 1);
            due("procedure", x.procedure(0), TOO_FEW);
            due("begun", x.begun(0, 0), 1);
        });
        test("Promise 14: a refused run after the definition is none", x -> {
            x.run(0);
            define(x, 0, skip());
            x.run(3);
            due("begun", x.begun(0, 0), 0);
        });
    }

    // ---- Promises 15 to 17

    private static void outEdges() {
        test("Promise 15: 0 if there was no run", x -> {
            define(x, 0, out(0));
            due("outs", x.outs(), 0);
        });
        test("Promise 15: the last run, not an earlier one, and not both", x -> {
            define(x, 0, seq(out(0), out(0)));
            x.run(0);
            x.run(0);
            due("outs", x.outs(), 2);
            x.run(1);
            due("outs", x.outs(), 0);
        });
        test("Promise 15: as many as steps allow", x -> {
            define(x, 0, loop(0, out(0)));
            x.load(0, 7);
            due("run", x.run(0), TIRED);
            due("outs", x.outs(), 299);
            due("out 298", x.out(298), 7);
            due("out 299", x.out(299), 0);
        });
        test("Promise 15: what was put out stays so, however the run ended", x -> {
            define(x, 0, seq(out(0), raise(0)));
            x.load(0, 5);
            x.run(0);
            due("THROWN", outs(x), List.of(5));
            define(x, 0, seq(out(0), call(0)));
            x.run(0);
            due("DEEP", outs(x), List.of(5, 5, 5, 5, 5, 5, 5, 5, 5));
        });
        test("Promise 16: 0 if there is none: no run", x -> {
            for (int i : new int[] {LEAST, -1, 0, 1, GREATEST}) {
                due("out " + i, x.out(i), 0);
            }
        });
        for (int i : new int[] {LEAST, -1, 2, 3, 299, 300, 301, GREATEST}) {
            test("Promise 16: 0 if there is none: two were put out, i is " + i, x -> {
                define(x, 0, seq(out(0), out(1)));
                load(x, 5, 6);
                x.run(0);
                due("out", x.out(i), 0);
            });
        }
        test("Promise 16: 0 the first", x -> {
            define(x, 0, seq(out(0), out(1)));
            load(x, 5, 6);
            x.run(0);
            due("out 0", x.out(0), 5);
            due("out 1", x.out(1), 6);
        });
        test("Promise 16: 0 if there is none: an earlier run put out more", x -> {
            define(x, 0, seq(out(0), out(1)));
            define(x, 1, out(1));
            load(x, 5, 6);
            x.run(0);
            x.run(1);
            due("out 0", x.out(0), 6);
            due("out 1", x.out(1), 0);
            x.run(2);
            due("out 0", x.out(0), 0);
        });
        test("Promise 16: the number as it was when it was put out", x -> {
            define(x, 0, seq(out(0), seq(set(0, 9), out(0))));
            x.load(0, 5);
            x.run(0);
            due("outs", outs(x), List.of(5, 9));
        });
    }

    private static void deepestEdges() {
        test("Promise 17: 0 if there was no run", x -> {
            define(x, 0, call(1));
            due("deepest", x.deepest(), 0);
        });
        test("Promise 17: a run without calls: its own procedure is not called", x -> {
            x.run(0);
            due("deepest", x.deepest(), 0);
        });
        for (int calls = 1; calls <= 8; calls++) {
            int nested = calls;
            test("Promise 17: calls inside one another: " + calls, x -> {
                nestedCalls(x, nested);
                x.run(2);
                due("deepest", x.deepest(), nested);
            });
        }
        test("Promise 17: at one time: calls one after another are not added", x -> {
            define(x, 0, seq(call(1), seq(call(1), call(1))));
            x.run(0);
            due("deepest", x.deepest(), 1);
        });
        test("Promise 17: the greatest number, though fewer are open later", x -> {
            nestedCalls(x, 3);
            define(x, 0, seq(call(2), call(1)));
            x.run(0);
            due("deepest", x.deepest(), 4);
        });
        test("Promise 17: the greatest number, though fewer were open before", x -> {
            nestedCalls(x, 3);
            define(x, 0, seq(call(1), call(2)));
            x.run(0);
            due("deepest", x.deepest(), 4);
        });
        test("Promise 17: in a THROWN run too", x -> {
            define(x, 1, raise(0));
            define(x, 0, call(1));
            due("run", x.run(0), THROWN);
            due("deepest", x.deepest(), 1);
        });
        test("Promise 17: the last run, not an earlier one", x -> {
            nestedCalls(x, 9);
            x.run(2);
            due("deepest", x.deepest(), 8);
            x.run(0);
            due("deepest", x.deepest(), 0);
        });
    }

    public static void main(String[] args) {
        useAndConstants();
        registersAndProcedures();
        jumps();
        waysOfEnding();
        statements();
        numbers();
        refusals();
        runsInTerms();
        tired();
        deep();
        newObject();
        simpleArguments();
        simpleOfNoUse();
        simpleFull();
        simpleOrder();
        loopEdges();
        joinEdges();
        joinOrder();
        depthAndDiscard();
        procedureEdges();
        badLoops();
        procedureOrder();
        loadEdges();
        runEdges();
        lastRunEdges();
        begunEdges();
        outEdges();
        deepestEdges();
        System.out.println(tests + " boundary cases, " + (wrong == 0 ? "all answers are as due" : wrong + " are not as due"));
        if (wrong != 0) {
            System.exit(1);
        }
    }
}
