import java.util.ArrayList;
import java.util.List;

/**
 * What the boundary tests have in common: each case is a test of its own, with a new object, and bears
 * the words of the document that it holds the program to.
 */
abstract class BoundaryCases {
    static final int BAD_ARG = UnwindCode.BAD_ARG;
    static final int FULL = UnwindCode.FULL;
    static final int TOO_FEW = UnwindCode.TOO_FEW;
    static final int NONE = UnwindCode.NONE;
    static final int BAD_LOOP = UnwindCode.BAD_LOOP;
    static final int DONE = UnwindCode.DONE;
    static final int THROWN = UnwindCode.THROWN;
    static final int TIRED = UnwindCode.TIRED;
    static final int DEEP = UnwindCode.DEEP;
    static final int LEAST = Integer.MIN_VALUE;
    static final int GREATEST = Integer.MAX_VALUE;

    static final int SKIP = 0;
    static final int SET = 1;
    static final int ADD = 2;
    static final int SUB = 3;
    static final int MUL = 4;
    static final int OUT = 5;
    static final int THROW = 6;
    static final int BREAK = 7;
    static final int GO_ON = 8;
    static final int RETURN = 9;
    static final int CALL = 10;
    static final int SEQ = 0;
    static final int IF = 1;
    static final int CATCH = 2;
    static final int LASTLY = 3;

    static final int[] NO_REGISTERS = {LEAST, -1, 4, GREATEST};
    static final int[] NO_PROCEDURES = {LEAST, -1, 3, GREATEST};

    interface Test {
        void on(UnwindCode x);
    }

    interface Call {
        int on(UnwindCode x);
    }

    /** A statement that is still to be put on the stack of an object. */
    interface Code {
        void put(UnwindCode x);
    }

    private static int tests = 0;
    private static int wrong = 0;
    private static String name = "";

    static void test(String sentence, Test test) {
        tests++;
        name = sentence;
        try {
            test.on(new UnwindCode());
        } catch (RuntimeException | StackOverflowError thrown) {
            wrong++;
            System.out.println(name + ": threw " + thrown);
        }
    }

    static void due(String what, Object got, Object want) {
        if (!got.equals(want)) {
            wrong++;
            System.out.println(name + ": " + what + " answered " + got + ", due is " + want);
        }
    }

    static void taken(int answer) {
        if (answer < 0) {
            wrong++;
            System.out.println(name + ": a statement was refused with " + answer);
        }
    }

    static Code simple(int op, int r, int n) {
        return x -> taken(x.simple(op, r, n));
    }

    static Code skip() {
        return simple(SKIP, 0, 0);
    }

    static Code set(int r, int n) {
        return simple(SET, r, n);
    }

    static Code add(int r, int s) {
        return simple(ADD, r, s);
    }

    static Code sub(int r, int s) {
        return simple(SUB, r, s);
    }

    static Code mul(int r, int s) {
        return simple(MUL, r, s);
    }

    static Code out(int r) {
        return simple(OUT, r, 0);
    }

    static Code raise(int r) {
        return simple(THROW, r, 0);
    }

    static Code leave(int n) {
        return simple(BREAK, 0, n);
    }

    static Code goOn(int n) {
        return simple(GO_ON, 0, n);
    }

    static Code giveBack() {
        return simple(RETURN, 0, 0);
    }

    static Code call(int p) {
        return simple(CALL, 0, p);
    }

    static Code loop(int r, Code a) {
        return x -> {
            a.put(x);
            taken(x.loop(r));
        };
    }

    static Code join(int op, int r, Code a, Code b) {
        return x -> {
            a.put(x);
            b.put(x);
            taken(x.join(op, r));
        };
    }

    static Code seq(Code a, Code b) {
        return join(SEQ, 0, a, b);
    }

    static Code when(int r, Code a, Code b) {
        return join(IF, r, a, b);
    }

    static Code guard(int r, Code a, Code b) {
        return join(CATCH, r, a, b);
    }

    static Code lastly(Code a, Code b) {
        return join(LASTLY, 0, a, b);
    }

    static void define(UnwindCode x, int p, Code body) {
        body.put(x);
        taken(x.procedure(p));
    }

    static void load(UnwindCode x, int... values) {
        for (int r = 0; r < values.length; r++) {
            x.load(r, values[r]);
        }
    }

    static void push(UnwindCode x, int count) {
        for (int i = 0; i < count; i++) {
            skip().put(x);
        }
    }

    /** Twenty statements made, one of them on the stack. */
    static void fillWithOne(UnwindCode x) {
        push(x, 1);
        for (int i = 1; i < 20; i++) {
            taken(x.loop(0));
        }
    }

    /** Procedure 2 calls itself as often as register 0 says, one call inside the other. */
    static void nestedCalls(UnwindCode x, int calls) {
        define(x, 2, when(0, seq(sub(0, 1), call(2)), skip()));
        load(x, calls, 1);
    }

    /** Three bodies, a THROWN run with outs and calls, and other numbers loaded after it. */
    static void rich(UnwindCode x) {
        define(x, 2, seq(out(1), raise(0)));
        define(x, 1, lastly(call(2), set(2, 8)));
        define(x, 0, seq(out(0), call(1)));
        load(x, 5, 6, 7, -1);
        x.run(0);
        load(x, 15, 16, 17, -11);
    }

    static List<Integer> outs(UnwindCode x) {
        List<Integer> all = new ArrayList<>();
        for (int i = 0; i < x.outs(); i++) {
            all.add(x.out(i));
        }
        return all;
    }

    static List<Integer> registers(UnwindCode x) {
        return List.of(x.register(0), x.register(1), x.register(2), x.register(3));
    }

    /** What an object tells without being changed; of what was put out only some, as an object has but 512 calls. */
    static String look(UnwindCode x) {
        StringBuilder told = new StringBuilder();
        told.append("depth ").append(x.depth()).append(" outcome ").append(x.outcome());
        told.append(" thrown ").append(x.thrown()).append(" registers ").append(registers(x));
        told.append(" steps ").append(x.steps()).append(" outs ").append(x.outs());
        told.append(" of ").append(List.of(x.out(0), x.out(1), x.out(2), x.out(100)));
        told.append(" deepest ").append(x.deepest()).append(" begun");
        for (int p = 0; p < 3; p++) {
            int times = 0;
            for (int number = 0; number <= 20 && times != BAD_ARG; number++) {
                times = x.begun(p, number);
                told.append(' ').append(times);
            }
            told.append(';');
        }
        return told.toString();
    }

    static void tellAndExit() {
        String found = wrong == 0 ? "all answers are as due" : wrong + " answers are not as due";
        System.out.println(tests + " boundary cases, " + found);
        if (wrong != 0) {
            System.exit(1);
        }
    }
}
