import java.util.ArrayList;
import java.util.Arrays;
import java.util.List;
import java.util.Random;

/** Runs of calls, the same ones each time, answered by UnwindCode and by a recursive model of the document. */
public final class ModelTest {
    private static final int OBJECTS = 20000;
    private static final int CALLS = 512;

    /** How a statement ended. */
    private record End(char way, int number) { }

    private static final End NORMAL = new End('n', 0);

    private record Statement(String name, int r, int n, int number, Statement a, Statement b) {
        int count() {
            return 1 + (a == null ? 0 : a.count()) + (b == null ? 0 : b.count());
        }

        boolean jumpsTooFar(int whiles) {
            if (name.equals("break") || name.equals("go on")) {
                return n >= whiles;
            }
            int inner = name.equals("while") ? whiles + 1 : whiles;
            return a != null && a.jumpsTooFar(inner) || b != null && b.jumpsTooFar(inner);
        }
    }

    /** Ends a run at once, past all that would be done lastly. */
    private static final class RunOver extends RuntimeException {
        private static final long serialVersionUID = 1L;
        private final int how;

        RunOver(int how) {
            super(null, null, false, false);
            this.how = how;
        }
    }

    private static final class Model {
        private static final String[] SIMPLE = {
            "skip", "set", "add", "sub", "mul", "out", "throw", "break", "go on", "return", "call"};
        private static final String[] JOINS = {"seq", "if", "catch", "lastly"};

        private final Statement[] bodies = new Statement[3];
        private final int[][] begun = {{0}, {0}, {0}};
        private final List<Statement> stack = new ArrayList<>();
        private int made = 0;
        private final int[] loaded = new int[4];
        private int[] registers = new int[4];
        private List<Integer> outs = new ArrayList<>();
        private int outcome = -4;
        private int thrown = 0;
        private int steps = 0;
        private int calls = 0;
        private int deepest = 0;

        Model() {
            Arrays.fill(bodies, new Statement("skip", 0, 0, 0, null, null));
        }

        private static boolean within(int value, int least, int greatest) {
            return least <= value && value <= greatest;
        }

        private int push(String name, int r, int n, Statement a, Statement b) {
            stack.add(new Statement(name, r, n, made, a, b));
            return made++;
        }

        private Statement pop() {
            return stack.remove(stack.size() - 1);
        }

        int simple(int op, int r, int n) {
            if (!within(op, 0, 10)) {
                return -1;
            }
            String name = SIMPLE[op];
            if (List.of("set", "add", "sub", "mul", "out", "throw").contains(name) && !within(r, 0, 3)) {
                return -1;
            }
            if (name.equals("set") && !within(n, -100, 100)) {
                return -1;
            }
            if (List.of("add", "sub", "mul", "break", "go on").contains(name) && !within(n, 0, 3)) {
                return -1;
            }
            if (name.equals("call") && !within(n, 0, 2)) {
                return -1;
            }
            return made == 20 ? -2 : push(name, r, n, null, null);
        }

        int loop(int r) {
            if (!within(r, 0, 3)) {
                return -1;
            }
            if (made == 20) {
                return -2;
            }
            return stack.isEmpty() ? -3 : push("while", r, 0, pop(), null);
        }

        int join(int op, int r) {
            if (!within(op, 0, 3) || List.of("if", "catch").contains(JOINS[op]) && !within(r, 0, 3)) {
                return -1;
            }
            if (made == 20) {
                return -2;
            }
            if (stack.size() < 2) {
                return -3;
            }
            Statement b = pop();
            Statement a = pop();
            return push(JOINS[op], r, 0, a, b);
        }

        int discard() {
            int size = stack.size();
            stack.clear();
            made = 0;
            return size;
        }

        int procedure(int p) {
            if (!within(p, 0, 2)) {
                return -1;
            }
            if (stack.size() != 1) {
                return -3;
            }
            if (stack.get(0).jumpsTooFar(0)) {
                return -5;
            }
            bodies[p] = stack.get(0);
            begun[p] = new int[bodies[p].count()];
            discard();
            return bodies[p].count();
        }

        int load(int r, int v) {
            if (!within(r, 0, 3)) {
                return -1;
            }
            loaded[r] = v;
            return 0;
        }

        int run(int p) {
            if (!within(p, 0, 2)) {
                return -1;
            }
            registers = loaded.clone();
            outs = new ArrayList<>();
            thrown = 0;
            steps = 0;
            calls = 0;
            deepest = 0;
            for (int[] counts : begun) {
                Arrays.fill(counts, 0);
            }
            try {
                End end = perform(p, bodies[p]);
                outcome = end.way() == 't' ? 1 : 0;
                thrown = end.way() == 't' ? end.number() : 0;
                if (end.way() == 'b' || end.way() == 'g') {
                    throw new IllegalStateException("a jump left its procedure");
                }
            } catch (RunOver over) {
                outcome = over.how;
            }
            return outcome;
        }

        private End perform(int p, Statement s) {
            if (steps == 300) {
                throw new RunOver(2);
            }
            steps++;
            begun[p][s.number()]++;
            switch (s.name()) {
                case "skip": return NORMAL;
                case "set": registers[s.r()] = s.n(); return NORMAL;
                case "add": registers[s.r()] += registers[s.n()]; return NORMAL;
                case "sub": registers[s.r()] -= registers[s.n()]; return NORMAL;
                case "mul": registers[s.r()] *= registers[s.n()]; return NORMAL;
                case "out": outs.add(registers[s.r()]); return NORMAL;
                case "throw": return new End('t', registers[s.r()]);
                case "break": return new End('b', s.n());
                case "go on": return new End('g', s.n());
                case "return": return new End('r', 0);
                case "call": return call(s.n());
                case "if": return perform(p, registers[s.r()] != 0 ? s.a() : s.b());
                case "while": return repeat(p, s);
                default: return performBoth(p, s);
            }
        }

        private End call(int p) {
            if (calls == 8) {
                throw new RunOver(3);
            }
            calls++;
            deepest = Math.max(deepest, calls);
            End end = perform(p, bodies[p]);
            calls--;
            return end.way() == 't' ? end : NORMAL;
        }

        private End repeat(int p, Statement s) {
            while (registers[s.r()] != 0) {
                End end = perform(p, s.a());
                if (end.equals(NORMAL) || end.equals(new End('g', 0))) {
                    continue;
                }
                if (end.equals(new End('b', 0))) {
                    return NORMAL;
                }
                boolean jumps = end.way() == 'b' || end.way() == 'g';
                return jumps ? new End(end.way(), end.number() - 1) : end;
            }
            return NORMAL;
        }

        private End performBoth(int p, Statement s) {
            End first = perform(p, s.a());
            if (s.name().equals("seq")) {
                return first.way() == 'n' ? perform(p, s.b()) : first;
            }
            if (s.name().equals("catch")) {
                if (first.way() != 't') {
                    return first;
                }
                registers[s.r()] = first.number();
                return perform(p, s.b());
            }
            End second = perform(p, s.b());
            return second.way() == 'n' ? first : second;
        }

        int begun(int p, int number) {
            return within(p, 0, 2) && within(number, 0, begun[p].length - 1) ? begun[p][number] : -1;
        }
    }

    private final Random random;
    private final UnwindCode program = new UnwindCode();
    private final Model model = new Model();
    private final List<String> told = new ArrayList<>();
    private boolean differs = false;
    private int used = 0;
    private static final int[] outcomes = new int[4];

    private ModelTest(long seed) {
        random = new Random(seed);
    }

    private void same(String call, int got, int want) {
        used++;
        told.add(call + " answered " + got + ", the model " + want);
        differs |= got != want;
    }

    private int any(int least, int greatest) {
        return least + random.nextInt(greatest - least + 1);
    }

    /** Mostly within the range, sometimes just or far outside of it. */
    private int mostly(int least, int greatest) {
        switch (random.nextInt(60)) {
            case 0: return least - 1;
            case 1: return greatest + 1;
            case 2: return random.nextInt();
            default: return any(least, greatest);
        }
    }

    private void simple() {
        int op = mostly(0, 10);
        int r = mostly(0, 3);
        int n = op == 1 ? (random.nextBoolean() ? mostly(-100, 100) : mostly(-2, 4)) : mostly(0, op == 10 ? 2 : 3);
        if ((op == 7 || op == 8) && random.nextInt(3) > 0) {
            n = any(0, 1);
        }
        same("simple(" + op + ", " + r + ", " + n + ")", program.simple(op, r, n), model.simple(op, r, n));
    }

    private void loop() {
        int r = mostly(0, 3);
        same("loop(" + r + ")", program.loop(r), model.loop(r));
    }

    private void join() {
        int op = mostly(0, 3);
        int r = mostly(0, 3);
        same("join(" + op + ", " + r + ")", program.join(op, r), model.join(op, r));
    }

    private void procedure() {
        int p = mostly(0, 2);
        same("procedure(" + p + ")", program.procedure(p), model.procedure(p));
    }

    private void load() {
        int r = mostly(0, 3);
        int v = random.nextInt(8) == 0 ? random.nextInt() : any(-3, 9);
        same("load(" + r + ", " + v + ")", program.load(r, v), model.load(r, v));
    }

    private void build() {
        int pushes = any(1, 10);
        for (int i = 0; i < pushes; i++) {
            simple();
            if (random.nextInt(3) == 0) {
                loop();
            }
            if (random.nextInt(3) == 0) {
                join();
            }
        }
        for (int i = 0; i < 20 && model.stack.size() > 1; i++) {
            join();
            if (random.nextInt(3) == 0) {
                loop();
            }
        }
        for (int i = 0; i < 4 && !model.stack.isEmpty() && model.stack.get(0).jumpsTooFar(0); i++) {
            procedure();
            loop();
        }
        procedure();
        if (random.nextInt(2) == 0 || model.made == 20) {
            same("discard()", program.discard(), model.discard());
        }
        same("depth()", program.depth(), model.stack.size());
    }

    private void look() {
        same("outcome()", program.outcome(), model.outcome);
        same("thrown()", program.thrown(), model.thrown);
        same("steps()", program.steps(), model.steps);
        same("deepest()", program.deepest(), model.deepest);
        same("outs()", program.outs(), model.outs.size());
        for (int r = -1; r <= 4; r++) {
            int want = r >= 0 && r < 4 && model.outcome != -4 ? model.registers[r] : 0;
            same("register(" + r + ")", program.register(r), want);
        }
        for (int k = 0; k < 6; k++) {
            int i = mostly(0, Math.max(0, model.outs.size() - 1));
            int want = i >= 0 && i < model.outs.size() ? model.outs.get(i) : 0;
            same("out(" + i + ")", program.out(i), want);
        }
        for (int k = 0; k < 8; k++) {
            int p = mostly(0, 2);
            int number = mostly(0, 12);
            same("begun(" + p + ", " + number + ")", program.begun(p, number), model.begun(p, number));
        }
    }

    private boolean agrees() {
        look();
        while (used < CALLS - 120) {
            build();
            if (random.nextInt(3) > 0) {
                load();
                load();
                int p = mostly(0, 2);
                int want = model.run(p);
                same("run(" + p + ")", program.run(p), want);
                if (want >= 0) {
                    outcomes[want]++;
                }
            }
            if (random.nextInt(2) == 0) {
                look();
            }
        }
        look();
        return !differs;
    }

    public static void main(String[] args) {
        for (int seed = 0; seed < OBJECTS; seed++) {
            ModelTest test = new ModelTest(seed);
            if (!test.agrees()) {
                System.out.println("object " + seed + ":");
                test.told.forEach(System.out::println);
                System.exit(1);
            }
            if (test.used > CALLS) {
                System.out.println("object " + seed + " was used for " + test.used + " calls");
                System.exit(1);
            }
        }
        System.out.println("all answers are as due; runs DONE, THROWN, TIRED, DEEP: " + Arrays.toString(outcomes));
        for (int count : outcomes) {
            if (count == 0) {
                System.out.println("no run ended in one of the ways, so the test says too little");
                System.exit(1);
            }
        }
    }
}
