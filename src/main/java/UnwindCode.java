/** Procedures with loops, calls, throws, catches and parts that are done at the end in any case. */
public final class UnwindCode {
    public static final int BAD_ARG = -1;
    public static final int FULL = -2;
    public static final int TOO_FEW = -3;
    public static final int NONE = -4;
    public static final int BAD_LOOP = -5;
    public static final int DONE = 0;
    public static final int THROWN = 1;
    public static final int TIRED = 2;
    public static final int DEEP = 3;

    private static final int REGISTERS = 4;
    private static final int PROCEDURES = 3;
    private static final int MOST_STATEMENTS = 20;
    private static final int GREATEST_SET = 100;
    private static final int GREATEST_LEVEL = 3;
    private static final int MOST_STEPS = 300;
    private static final int MOST_CALLS = 8;

    // The statements being put together lie behind the bodies, as if in one more procedure.
    private static final int DRAFT = PROCEDURES * MOST_STATEMENTS;
    private static final int ALL_STATEMENTS = DRAFT + MOST_STATEMENTS;

    // Each turn begins or ends a statement, and at most 300 are begun.
    private static final int MOST_TURNS = 1000000;

    // The kinds of statements: the first eleven are the ops of simple,
    // those from SEQ on are the ops of join, in their order.
    private static final int SKIP = 0;
    private static final int SET = 1;
    private static final int ADD = 2;
    private static final int SUB = 3;
    private static final int MUL = 4;
    private static final int OUT = 5;
    private static final int THROW = 6;
    private static final int BREAK = 7;
    private static final int GO_ON = 8;
    private static final int RETURN = 9;
    private static final int CALL = 10;
    private static final int WHILE = 11;
    private static final int SEQ = 12;
    private static final int IF = 13;
    private static final int CATCH = 14;
    private static final int LASTLY = 15;

    // The ops of join that its tests ask for.
    private static final int JOIN_IF = IF - SEQ;
    private static final int JOIN_CATCH = CATCH - SEQ;
    private static final int JOIN_LASTLY = LASTLY - SEQ;

    // The ways in which a statement ends.
    private static final int NORMALLY = 0;
    private static final int THROWING = 1;
    private static final int BREAKING = 2;
    private static final int GOING_ON = 3;
    private static final int RETURNING = 4;

    // What a lastly has kept while its first part is not at its end.
    private static final int NOT_YET = -1;

    // What next holds when a statement has just ended.
    private static final int NOWHERE = -1;

    // Statements; first and second are numbers within the same procedure.
    private final int[] kind = new int[ALL_STATEMENTS];
    private final int[] target = new int[ALL_STATEMENTS];
    private final int[] operand = new int[ALL_STATEMENTS];
    private final int[] first = new int[ALL_STATEMENTS];
    private final int[] second = new int[ALL_STATEMENTS];
    private final int[] size = new int[PROCEDURES];

    private final int[] stack = new int[MOST_STATEMENTS];
    private int stacked = 0;
    private int made = 0;
    private final int[] whilesAround = new int[MOST_STATEMENTS];

    private final int[] loaded = new int[REGISTERS];

    // The last run.
    private final int[] held = new int[REGISTERS];
    private final int[] timesBegun = new int[DRAFT];
    private final int[] putOut = new int[MOST_STEPS];
    private int putCount = 0;
    private int stepCount = 0;
    private int openCalls = 0;
    private int mostOpenCalls = 0;
    private int lastOutcome = NONE;
    private int lastThrown = 0;

    // The run while it goes on: a frame is a statement that waits for a part of it to end.
    private boolean running = false;
    private int next = NOWHERE;
    private int ending = NORMALLY;
    private int endingNumber = 0;
    private final int[] frameStatement = new int[MOST_STEPS];
    private final int[] frameEnding = new int[MOST_STEPS];
    private final int[] frameNumber = new int[MOST_STEPS];
    private int frames = 0;

    public UnwindCode() {
        for (int p = 0; p < PROCEDURES; p++) {
            // A new array holds SKIP everywhere.
            size[p] = 1;
        }
    }

    public int simple(int op, int r, int n) {
        if (op < SKIP || op > CALL) {
            return BAD_ARG;
        }
        if (op >= SET && op <= THROW && !isRegister(r)) {
            return BAD_ARG;
        }
        if (!operandFits(op, n)) {
            return BAD_ARG;
        }
        if (made >= MOST_STATEMENTS) {
            return FULL;
        }
        return push(op, r, n, 0, 0);
    }

    public int loop(int r) {
        if (!isRegister(r)) {
            return BAD_ARG;
        }
        if (made >= MOST_STATEMENTS) {
            return FULL;
        }
        if (stacked < 1) {
            return TOO_FEW;
        }
        stacked--;
        return push(WHILE, r, 0, stack[stacked], 0);
    }

    public int join(int op, int r) {
        if (op < 0 || op > JOIN_LASTLY) {
            return BAD_ARG;
        }
        if ((op == JOIN_IF || op == JOIN_CATCH) && !isRegister(r)) {
            return BAD_ARG;
        }
        if (made >= MOST_STATEMENTS) {
            return FULL;
        }
        if (stacked < 2) {
            return TOO_FEW;
        }
        stacked -= 2;
        return push(SEQ + op, r, 0, stack[stacked], stack[stacked + 1]);
    }

    public int depth() {
        return stacked;
    }

    public int discard() {
        int before = stacked;
        emptyStack();
        return before;
    }

    public int procedure(int p) {
        if (!isProcedure(p)) {
            return BAD_ARG;
        }
        if (stacked != 1) {
            return TOO_FEW;
        }
        if (!hasLoopsEnough()) {
            return BAD_LOOP;
        }
        copyDraftTo(p);
        size[p] = made;
        emptyStack();
        return size[p];
    }

    public int load(int r, int v) {
        if (!isRegister(r)) {
            return BAD_ARG;
        }
        loaded[r] = v;
        return 0;
    }

    public int run(int p) {
        if (!isProcedure(p)) {
            return BAD_ARG;
        }
        startRun(p);
        for (int turn = 0; turn < MOST_TURNS && running; turn++) {
            if (next == NOWHERE) {
                passEndingOn();
            } else {
                beginStatement(next);
            }
        }
        return lastOutcome;
    }

    public int outcome() {
        return lastOutcome;
    }

    public int thrown() {
        return lastThrown;
    }

    public int register(int r) {
        if (!isRegister(r)) {
            return 0;
        }
        return held[r];
    }

    public int steps() {
        return stepCount;
    }

    public int begun(int p, int number) {
        if (!isProcedure(p)) {
            return BAD_ARG;
        }
        if (number < 0 || number >= size[p]) {
            return BAD_ARG;
        }
        return timesBegun[p * MOST_STATEMENTS + number];
    }

    public int outs() {
        return putCount;
    }

    public int out(int i) {
        if (i < 0 || i >= putCount) {
            return 0;
        }
        return putOut[i];
    }

    public int deepest() {
        return mostOpenCalls;
    }

    private static boolean isRegister(int r) {
        return r >= 0 && r < REGISTERS;
    }

    private static boolean isProcedure(int p) {
        return p >= 0 && p < PROCEDURES;
    }

    private static boolean operandFits(int op, int n) {
        switch (op) {
            case SET:
                return n >= -GREATEST_SET && n <= GREATEST_SET;
            case ADD:
            case SUB:
            case MUL:
                return isRegister(n);
            case BREAK:
            case GO_ON:
                return n >= 0 && n <= GREATEST_LEVEL;
            case CALL:
                return isProcedure(n);
            default:
                return true;
        }
    }

    private int push(int newKind, int r, int n, int a, int b) {
        int number = made;
        int at = DRAFT + number;
        kind[at] = newKind;
        target[at] = r;
        operand[at] = n;
        first[at] = a;
        second[at] = b;
        stack[stacked] = number;
        stacked++;
        made++;
        return number;
    }

    private void emptyStack() {
        stacked = 0;
        made = 0;
    }

    // Parts have lower numbers than what they are part of, so that going down
    // meets every statement before its parts.
    private boolean hasLoopsEnough() {
        whilesAround[made - 1] = 0;
        for (int number = made - 1; number >= 0; number--) {
            int at = DRAFT + number;
            int around = whilesAround[number];
            if ((kind[at] == BREAK || kind[at] == GO_ON) && around < operand[at] + 1) {
                return false;
            }
            if (kind[at] == WHILE) {
                whilesAround[first[at]] = around + 1;
            } else if (kind[at] >= SEQ) {
                whilesAround[first[at]] = around;
                whilesAround[second[at]] = around;
            }
        }
        return true;
    }

    private void copyDraftTo(int p) {
        for (int number = 0; number < MOST_STATEMENTS; number++) {
            int from = DRAFT + number;
            int to = p * MOST_STATEMENTS + number;
            kind[to] = kind[from];
            target[to] = target[from];
            operand[to] = operand[from];
            first[to] = first[from];
            second[to] = second[from];
            // The last run did not know this body.
            timesBegun[to] = 0;
        }
    }

    private void startRun(int p) {
        for (int r = 0; r < REGISTERS; r++) {
            held[r] = loaded[r];
        }
        for (int at = 0; at < DRAFT; at++) {
            timesBegun[at] = 0;
        }
        putCount = 0;
        stepCount = 0;
        openCalls = 0;
        mostOpenCalls = 0;
        lastThrown = 0;
        frames = 0;
        running = true;
        goToBody(p);
    }

    private void endRun(int how) {
        lastOutcome = how;
        running = false;
    }

    // The statement made last is the one that all others of the body are parts of.
    private void goToBody(int p) {
        next = p * MOST_STATEMENTS + size[p] - 1;
    }

    private void goToPart(int at, int number) {
        next = at - at % MOST_STATEMENTS + number;
    }

    private void endStatement(int how, int number) {
        ending = how;
        endingNumber = number;
        next = NOWHERE;
    }

    private void beginStatement(int at) {
        if (stepCount >= MOST_STEPS) {
            endRun(TIRED);
            return;
        }
        stepCount++;
        timesBegun[at]++;
        if (kind[at] < CALL) {
            doSimple(at);
        } else if (kind[at] == CALL) {
            beginCall(at);
        } else if (kind[at] == IF) {
            // It ends as its part does, so it need not wait for it.
            goToPart(at, held[target[at]] != 0 ? first[at] : second[at]);
        } else if (kind[at] == WHILE && held[target[at]] == 0) {
            endStatement(NORMALLY, 0);
        } else {
            waitFor(at);
            goToPart(at, first[at]);
        }
    }

    private void doSimple(int at) {
        int r = target[at];
        int n = operand[at];
        endStatement(NORMALLY, 0);
        switch (kind[at]) {
            case SET:
                held[r] = n;
                break;
            case ADD:
                held[r] += held[n];
                break;
            case SUB:
                held[r] -= held[n];
                break;
            case MUL:
                held[r] *= held[n];
                break;
            case OUT:
                putOut[putCount] = held[r];
                putCount++;
                break;
            case THROW:
                endStatement(THROWING, held[r]);
                break;
            case BREAK:
                endStatement(BREAKING, n);
                break;
            case GO_ON:
                endStatement(GOING_ON, n);
                break;
            case RETURN:
                endStatement(RETURNING, 0);
                break;
            default:
                break;
        }
    }

    private void beginCall(int at) {
        if (openCalls >= MOST_CALLS) {
            endRun(DEEP);
            return;
        }
        openCalls++;
        if (openCalls > mostOpenCalls) {
            mostOpenCalls = openCalls;
        }
        waitFor(at);
        goToBody(operand[at]);
    }

    // There are never more frames than steps, so the arrays hold them.
    private void waitFor(int at) {
        frameStatement[frames] = at;
        frameEnding[frames] = NOT_YET;
        frames++;
    }

    private void passEndingOn() {
        if (frames == 0) {
            endBody();
            return;
        }
        int at = frameStatement[frames - 1];
        switch (kind[at]) {
            case CALL:
                endCall();
                break;
            case WHILE:
                endRound(at);
                break;
            case SEQ:
                endFirstOfSeq(at);
                break;
            case CATCH:
                endGuarded(at);
                break;
            default:
                endPartOfLastly(at);
                break;
        }
    }

    private void endBody() {
        if (ending == THROWING) {
            lastThrown = endingNumber;
            endRun(THROWN);
        } else {
            endRun(DONE);
        }
    }

    private void endCall() {
        frames--;
        openCalls--;
        if (ending != THROWING) {
            endStatement(NORMALLY, 0);
        }
    }

    private void endRound(int at) {
        boolean leaps = ending == BREAKING || ending == GOING_ON;
        boolean looksAgain = ending == NORMALLY || (ending == GOING_ON && endingNumber == 0);
        if (looksAgain && held[target[at]] != 0) {
            goToPart(at, first[at]);
            return;
        }
        frames--;
        if (looksAgain || (leaps && endingNumber == 0)) {
            endStatement(NORMALLY, 0);
        } else if (leaps) {
            endingNumber--;
        }
    }

    private void endFirstOfSeq(int at) {
        frames--;
        if (ending == NORMALLY) {
            goToPart(at, second[at]);
        }
    }

    private void endGuarded(int at) {
        frames--;
        if (ending == THROWING) {
            held[target[at]] = endingNumber;
            goToPart(at, second[at]);
        }
    }

    private void endPartOfLastly(int at) {
        int top = frames - 1;
        if (frameEnding[top] == NOT_YET) {
            frameEnding[top] = ending;
            frameNumber[top] = endingNumber;
            goToPart(at, second[at]);
            return;
        }
        frames--;
        if (ending == NORMALLY) {
            endStatement(frameEnding[top], frameNumber[top]);
        }
    }
}
