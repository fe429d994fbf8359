/**
 * A virtual machine for a register bytecode with functions and stackful asymmetric coroutines.
 *
 * Handles are never reused but only a few coroutines live at once, so each live coroutine
 * occupies one of a fixed number of thread slots, and the slot is free again when it dies.
 */
public final class StackfulCoro {
    public static final int OP_LOADK = 0, OP_MOVE = 1, OP_ADD = 2, OP_SUB = 3, OP_LT = 4, OP_JMP = 5;
    public static final int OP_JZ = 6, OP_CALL = 7, OP_RET = 8, OP_OUT = 9, OP_DEFER = 10, OP_ERROR = 11;
    public static final int OP_CREATE = 12, OP_RESUME = 13, OP_WRESUME = 14, OP_YIELD = 15;
    public static final int OP_STATUS = 16, OP_CLOSE = 17, OP_RUNNING = 18;
    public static final int ST_LOADING = 0, ST_RUNNING = 1, ST_DONE = 2, ST_FAILED = 3;
    public static final int CO_SUSPENDED = 0, CO_RUNNING = 1, CO_NORMAL = 2, CO_DEAD = 3;
    public static final int ERR_DEAD = -1, ERR_NOT_SUSPENDED = -2, ERR_YIELD_MAIN = -3, ERR_STACK = -4;
    public static final int ERR_TOO_MANY = -5, ERR_CLEANUP_FULL = -6, ERR_BAD_PC = -7, ERR_CLOSE_ACTIVE = -8;
    public static final int MAX_CODE = 64, LOG_CAP = 64;

    private static final int MOST_CO = 4;
    private static final int MOST_DEPTH = 6;
    private static final int MOST_STEPS = 1000;
    private static final int MOST_HANDLES = 2147483647;
    private static final int REGS = 8;
    private static final int TAGS = 4;

    private static final int MAIN = 0;
    private static final int NO_THREAD = -1;
    private static final int THREADS = MOST_CO + 1;
    private static final int ALL_FRAMES = THREADS * MOST_DEPTH;
    private static final int ALL_REGS = ALL_FRAMES * REGS;
    private static final int ALL_TAGS = ALL_FRAMES * TAGS;

    private final int maxCo;
    private final int maxDepth;

    private final int[] codeOp = new int[MAX_CODE];
    private final int[] codeA = new int[MAX_CODE];
    private final int[] codeB = new int[MAX_CODE];
    private final int[] codeC = new int[MAX_CODE];
    private int codeLength;

    private final int[] log = new int[LOG_CAP];
    private int logCount;

    private int state;
    private int result;
    private int current;
    private int lastHandle;

    // Set by an instruction that raises; settled before the step ends.
    private boolean raised;
    private int raisedError;

    // Per thread slot.
    private final int[] handle = new int[THREADS];
    private final int[] status = new int[THREADS];
    private final int[] resumer = new int[THREADS];
    private final int[] body = new int[THREADS];
    private final int[] depth = new int[THREADS];

    // Per frame; a thread slot owns MOST_DEPTH frames in a row, its oldest frame first.
    private final int[] pc = new int[ALL_FRAMES];
    private final int[] tagCount = new int[ALL_FRAMES];
    private final int[] regs = new int[ALL_REGS];
    private final int[] tags = new int[ALL_TAGS];

    public StackfulCoro(int maxCo, int maxDepth) {
        this.maxCo = clamp(maxCo, 1, MOST_CO);
        this.maxDepth = clamp(maxDepth, 1, MOST_DEPTH);
        for (int t = 0; t < THREADS; t++) {
            status[t] = CO_DEAD;
        }
    }

    public boolean emit(int op, int a, int b, int c) {
        if (state != ST_LOADING || codeLength >= MAX_CODE || !operandsFit(op, a, b, c)) {
            return false;
        }
        codeOp[codeLength] = op;
        codeA[codeLength] = a;
        codeB[codeLength] = b;
        codeC[codeLength] = c;
        codeLength++;
        return true;
    }

    public boolean start(int entry, int arg) {
        if (state != ST_LOADING || entry < 0 || entry >= codeLength) {
            return false;
        }
        pushFrame(MAIN, entry, arg);
        status[MAIN] = CO_RUNNING;
        current = MAIN;
        state = ST_RUNNING;
        return true;
    }

    public int run(int steps) {
        int limit = clamp(steps, 1, MOST_STEPS);
        int done = 0;
        while (done < limit && state == ST_RUNNING) {
            step();
            if (raised) {
                settleRaise();
            }
            done++;
        }
        return done;
    }

    public int getState() {
        return state;
    }

    public int getResult() {
        return result;
    }

    public int coStatus(int h) {
        int thread = threadOf(h);
        return thread == NO_THREAD ? CO_DEAD : status[thread];
    }

    public int currentCo() {
        return state == ST_RUNNING ? handle[current] : 0;
    }

    public int getDepth(int h) {
        int thread = threadOf(h);
        return thread == NO_THREAD ? 0 : depth[thread];
    }

    public int getReg(int h, int r) {
        int thread = threadOf(h);
        if (thread == NO_THREAD || depth[thread] == 0 || !isReg(r)) {
            return 0;
        }
        return regs[topFrame(thread) * REGS + r];
    }

    public int getPendingCleanups(int h) {
        int thread = threadOf(h);
        if (thread == NO_THREAD) {
            return 0;
        }
        int sum = 0;
        for (int level = 0; level < depth[thread]; level++) {
            int frame = thread * MOST_DEPTH + level;
            for (int i = 0; i < tagCount[frame]; i++) {
                sum += tags[frame * TAGS + i];
            }
        }
        return sum;
    }

    public int getLiveCount() {
        int live = 0;
        for (int t = MAIN + 1; t < THREADS; t++) {
            if (status[t] != CO_DEAD) {
                live++;
            }
        }
        return live;
    }

    public int getLastHandle() {
        return lastHandle;
    }

    public int getLogCount() {
        return logCount;
    }

    public int getLog(int i) {
        return i >= 0 && i < logCount ? log[i] : 0;
    }

    public int getCodeLength() {
        return codeLength;
    }

    private static int clamp(int value, int least, int most) {
        if (value < least) {
            return least;
        }
        return value > most ? most : value;
    }

    private static boolean isReg(int operand) {
        return operand >= 0 && operand < REGS;
    }

    private static boolean isAddr(int operand) {
        return operand >= 0 && operand < MAX_CODE;
    }

    private static boolean operandsFit(int op, int a, int b, int c) {
        switch (op) {
            case OP_LOADK:
            case OP_RET:
            case OP_OUT:
            case OP_DEFER:
            case OP_ERROR:
            case OP_RUNNING:
                return isReg(a);
            case OP_MOVE:
            case OP_YIELD:
            case OP_STATUS:
            case OP_CLOSE:
                return isReg(a) && isReg(b);
            case OP_ADD:
            case OP_SUB:
            case OP_LT:
            case OP_RESUME:
            case OP_WRESUME:
                return isReg(a) && isReg(b) && isReg(c);
            case OP_JMP:
                return isAddr(a);
            case OP_JZ:
            case OP_CREATE:
                return isReg(a) && isAddr(b);
            case OP_CALL:
                return isReg(a) && isAddr(b) && isReg(c);
            default:
                return false;
        }
    }

    private int threadOf(int h) {
        if (h == 0) {
            return MAIN;
        }
        for (int t = MAIN + 1; t < THREADS; t++) {
            if (status[t] != CO_DEAD && handle[t] == h) {
                return t;
            }
        }
        return NO_THREAD;
    }

    private int topFrame(int thread) {
        return thread * MOST_DEPTH + depth[thread] - 1;
    }

    private void pushFrame(int thread, int address, int arg) {
        depth[thread]++;
        int frame = topFrame(thread);
        pc[frame] = address;
        tagCount[frame] = 0;
        regs[frame * REGS] = arg;
        for (int r = 1; r < REGS; r++) {
            regs[frame * REGS + r] = 0;
        }
    }

    private void popFrame(int thread) {
        int frame = topFrame(thread);
        for (int i = tagCount[frame] - 1; i >= 0; i--) {
            appendLog(tags[frame * TAGS + i]);
        }
        depth[thread]--;
    }

    private void unwind(int thread) {
        int held = depth[thread];
        for (int i = 0; i < held; i++) {
            popFrame(thread);
        }
    }

    private void appendLog(int entry) {
        if (logCount < LOG_CAP) {
            log[logCount] = entry;
            logCount++;
        }
    }

    private void raise(int error) {
        raised = true;
        raisedError = error;
    }

    // A raise drops every frame of its thread, so the pc may move on before the outcome is known.
    private void step() {
        int frame = topFrame(current);
        int at = pc[frame];
        if (at >= codeLength) {
            raise(ERR_BAD_PC);
            return;
        }
        int base = frame * REGS;
        int a = codeA[at];
        int b = codeB[at];
        int c = codeC[at];
        pc[frame] = at + 1;
        switch (codeOp[at]) {
            case OP_LOADK: regs[base + a] = b; break;
            case OP_MOVE: regs[base + a] = regs[base + b]; break;
            case OP_ADD: regs[base + a] = regs[base + b] + regs[base + c]; break;
            case OP_SUB: regs[base + a] = regs[base + b] - regs[base + c]; break;
            case OP_LT: regs[base + a] = regs[base + b] < regs[base + c] ? 1 : 0; break;
            case OP_JMP: pc[frame] = a; break;
            case OP_JZ: pc[frame] = regs[base + a] == 0 ? b : at + 1; break;
            case OP_CALL: callFunction(b, regs[base + c]); break;
            case OP_RET: leaveFunction(regs[base + a]); break;
            case OP_OUT: appendLog(regs[base + a]); break;
            case OP_DEFER: addCleanup(frame, regs[base + a]); break;
            case OP_ERROR: raise(regs[base + a]); break;
            case OP_CREATE: createCoroutine(base + a, b); break;
            case OP_RESUME:
            case OP_WRESUME: resumeHandle(regs[base + b], regs[base + c]); break;
            case OP_YIELD: yieldValue(regs[base + a]); break;
            case OP_STATUS: regs[base + a] = coStatus(regs[base + b]); break;
            case OP_CLOSE: closeHandle(base + a, regs[base + b]); break;
            case OP_RUNNING: regs[base + a] = handle[current]; break;
            default: break;
        }
    }

    private void callFunction(int address, int arg) {
        if (depth[current] >= maxDepth) {
            raise(ERR_STACK);
            return;
        }
        pushFrame(current, address, arg);
    }

    private void leaveFunction(int value) {
        int thread = current;
        popFrame(thread);
        if (depth[thread] > 0) {
            int caller = topFrame(thread);
            // The caller has stood still since its CALL, the instruction just before its pc.
            int call = pc[caller] - 1;
            regs[caller * REGS + codeA[call]] = value;
        } else if (thread == MAIN) {
            endProgram(ST_DONE, value);
        } else {
            status[thread] = CO_DEAD;
            complete(resumer[thread], true, value);
        }
    }

    private void addCleanup(int frame, int tag) {
        if (tagCount[frame] >= TAGS) {
            raise(ERR_CLEANUP_FULL);
            return;
        }
        tags[frame * TAGS + tagCount[frame]] = tag;
        tagCount[frame]++;
    }

    private void createCoroutine(int target, int address) {
        int thread = freeThread();
        // Without a next int, a new handle would reuse an old one or be negative.
        if (thread == NO_THREAD || lastHandle >= MOST_HANDLES) {
            raise(ERR_TOO_MANY);
            return;
        }
        lastHandle++;
        handle[thread] = lastHandle;
        status[thread] = CO_SUSPENDED;
        body[thread] = address;
        regs[target] = lastHandle;
    }

    private int freeThread() {
        for (int t = MAIN + 1; t <= maxCo; t++) {
            if (status[t] == CO_DEAD) {
                return t;
            }
        }
        return NO_THREAD;
    }

    private void resumeHandle(int h, int value) {
        int thread = threadOf(h);
        if (thread == NO_THREAD) {
            complete(current, false, ERR_DEAD);
        } else if (status[thread] != CO_SUSPENDED) {
            complete(current, false, ERR_NOT_SUSPENDED);
        } else {
            enterCoroutine(thread, value);
        }
    }

    private void enterCoroutine(int thread, int value) {
        status[current] = CO_NORMAL;
        resumer[thread] = current;
        status[thread] = CO_RUNNING;
        current = thread;
        if (depth[thread] == 0) {
            pushFrame(thread, body[thread], value);
            return;
        }
        int frame = topFrame(thread);
        // A suspended coroutine with frames stopped at the YIELD just before its pc.
        int stop = pc[frame] - 1;
        regs[frame * REGS + codeB[stop]] = value;
    }

    private void yieldValue(int value) {
        if (current == MAIN) {
            raise(ERR_YIELD_MAIN);
            return;
        }
        status[current] = CO_SUSPENDED;
        complete(resumer[current], true, value);
    }

    private void closeHandle(int target, int h) {
        int thread = threadOf(h);
        if (thread == NO_THREAD) {
            regs[target] = 0;
        } else if (status[thread] != CO_SUSPENDED) {
            raise(ERR_CLOSE_ACTIVE);
        } else {
            unwind(thread);
            status[thread] = CO_DEAD;
            regs[target] = 1;
        }
    }

    private void complete(int thread, boolean success, int value) {
        current = thread;
        status[thread] = CO_RUNNING;
        int frame = topFrame(thread);
        // The thread has stood still since its RESUME or WRESUME, just before its pc.
        int at = pc[frame] - 1;
        boolean wraps = codeOp[at] == OP_WRESUME;
        if (wraps && !success) {
            raise(value);
            return;
        }
        int a = codeA[at];
        regs[frame * REGS + a] = value;
        if (!wraps) {
            regs[frame * REGS + (a + 1) % REGS] = success ? 1 : 0;
        }
    }

    // Each round kills one thread, so a chain of raises is never longer than the threads are many.
    private void settleRaise() {
        for (int round = 0; round < THREADS && raised; round++) {
            int failed = current;
            raised = false;
            unwind(failed);
            status[failed] = CO_DEAD;
            if (failed == MAIN) {
                endProgram(ST_FAILED, raisedError);
            } else {
                complete(resumer[failed], false, raisedError);
            }
        }
    }

    private void endProgram(int finalState, int value) {
        status[MAIN] = CO_DEAD;
        state = finalState;
        result = value;
    }
}
