/** Promise 1, sentence by sentence: the clamps, and the empty machine. */
public final class Boundary01ConstructionTest {
    private static final Check CHECK = new Check();
    private static final int MIN = Integer.MIN_VALUE;
    private static final int MAX = Integer.MAX_VALUE;
    private static final int[] HANDLES = {MIN, MIN + 1, -2, -1, 0, 1, 2, 3, 4, 5, 6, 64, MAX - 1, MAX};
    private static final int[] REGS = {MIN, -1, 0, 1, 2, 3, 4, 5, 6, 7, 8, MAX};

    public static void main(String[] args) {
        maxCoIsClamped();
        mostLiveAtOnce();
        maxDepthIsClamped();
        mostFramesOfAnyThread();
        for (int maxCo : new int[] {MIN, 0, 1, 4, 5, MAX}) {
            for (int maxDepth : new int[] {MIN, 0, 1, 6, 7, MAX}) {
                newMachine(maxCo, maxDepth);
            }
        }
        CHECK.end();
    }

    private static StackfulCoro creating(int maxCo) {
        return Asm.started(maxCo, 1, Asm.create(1, 0), Asm.jmp(0));
    }

    // The n-th CREATE is step 2n - 1.
    private static void maxCoIsClamped() {
        CHECK.sentence("clamps `maxCo` into 1..4: below 1 becomes 1, above 4 becomes 4.");
        int[][] clamps = {{MIN, 1}, {-1, 1}, {0, 1}, {1, 1}, {2, 2}, {3, 3}, {4, 4}, {5, 4}, {6, 4}, {MAX, 4}};
        for (int[] c : clamps) {
            StackfulCoro x = creating(c[0]);
            CHECK.due("maxCo " + c[0] + ": run", x.run(2 * c[1]), 2 * c[1]);
            CHECK.due("maxCo " + c[0] + ": all taken", x.getLiveCount(), c[1]);
            CHECK.ended("maxCo " + c[0] + ": all taken", x, StackfulCoro.ST_RUNNING, 0);
            x.run(1);
            CHECK.ended("maxCo " + c[0] + ": one more", x, StackfulCoro.ST_FAILED, StackfulCoro.ERR_TOO_MANY);
            CHECK.sameFuture("maxCo " + c[0], creating(c[0]), creating(c[1]));
        }
    }

    // Many may be made one after another; only those live at the same time count.
    private static void mostLiveAtOnce() {
        CHECK.sentence("The clamped value is the most coroutines that may be live at once.");
        for (int maxCo = 1; maxCo <= 4; maxCo++) {
            StackfulCoro x = new StackfulCoro(maxCo, 1);
            for (int i = 0; i < maxCo; i++) {
                x.emit(StackfulCoro.OP_CREATE, 1, 0, 0);
            }
            for (int i = 0; i < 10; i++) {
                x.emit(StackfulCoro.OP_CLOSE, 2, 1, 0);
                x.emit(StackfulCoro.OP_CREATE, 1, 0, 0);
            }
            x.emit(StackfulCoro.OP_CREATE, 1, 0, 0);
            x.start(0, 0);
            CHECK.due("maxCo " + maxCo + ": run", x.run(maxCo + 20), maxCo + 20);
            CHECK.due("maxCo " + maxCo + ": made", x.getLastHandle(), maxCo + 10);
            CHECK.due("maxCo " + maxCo + ": live", x.getLiveCount(), maxCo);
            CHECK.due("maxCo " + maxCo + ": still running", x.getState(), StackfulCoro.ST_RUNNING);
            x.run(1);
            CHECK.ended("maxCo " + maxCo + ": one more", x, StackfulCoro.ST_FAILED, StackfulCoro.ERR_TOO_MANY);
            CHECK.due("maxCo " + maxCo + ": made after the refusal", x.getLastHandle(), maxCo + 10);
            CHECK.due("maxCo " + maxCo + ": live after the refusal", x.getLiveCount(), maxCo);
        }
    }

    private static StackfulCoro calling(int maxDepth) {
        return Asm.started(1, maxDepth, Asm.loadk(1, 5), Asm.call(0, 1, 0));
    }

    private static void maxDepthIsClamped() {
        CHECK.sentence("`maxDepth` is clamped into 1..6 the same way.");
        int[][] clamps = {{MIN, 1}, {-1, 1}, {0, 1}, {1, 1}, {2, 2}, {3, 3}, {4, 4}, {5, 5}, {6, 6}, {7, 6}, {8, 6}, {MAX, 6}};
        for (int[] c : clamps) {
            StackfulCoro x = calling(c[0]);
            CHECK.due("maxDepth " + c[0] + ": run", x.run(c[1]), c[1]);
            CHECK.due("maxDepth " + c[0] + ": all taken", x.getDepth(0), c[1]);
            CHECK.ended("maxDepth " + c[0] + ": all taken", x, StackfulCoro.ST_RUNNING, 0);
            x.run(1);
            CHECK.ended("maxDepth " + c[0] + ": one more", x, StackfulCoro.ST_FAILED, StackfulCoro.ERR_STACK);
            CHECK.sameFuture("maxDepth " + c[0], calling(c[0]), calling(c[1]));
        }
    }

    // Main and four coroutines hold all their frames at the same time, each resuming the next from its last frame.
    private static void mostFramesOfAnyThread() {
        CHECK.sentence("It is the most frames any one thread may hold, main included.");
        for (int maxDepth = 1; maxDepth <= 6; maxDepth++) {
            StackfulCoro x = new StackfulCoro(4, maxDepth);
            for (int i = 1; i < maxDepth; i++) {
                x.emit(StackfulCoro.OP_CALL, 1, i, 0);
            }
            x.emit(StackfulCoro.OP_CREATE, 1, 0, 0);
            x.emit(StackfulCoro.OP_RESUME, 2, 1, 0);
            x.start(0, 0);
            x.run(5 * (maxDepth - 1) + 4 * 2);
            for (int h = 0; h <= 4; h++) {
                CHECK.due("maxDepth " + maxDepth + ": getDepth(" + h + ")", x.getDepth(h), maxDepth);
            }
            CHECK.due("maxDepth " + maxDepth + ": the last is current", x.currentCo(), 4);
        }
    }

    private static void newMachine(int maxCo, int maxDepth) {
        StackfulCoro x = new StackfulCoro(maxCo, maxDepth);
        CHECK.sentence("state LOADING;");
        CHECK.due("getState()", x.getState(), StackfulCoro.ST_LOADING);
        CHECK.sentence("no code (`getCodeLength()` is 0);");
        CHECK.due("getCodeLength()", x.getCodeLength(), 0);
        CHECK.due("start(0, 0) without code", x.start(0, 0), false);
        CHECK.sentence("an empty log;");
        CHECK.due("getLogCount()", x.getLogCount(), 0);
        for (int i : new int[] {MIN, -1, 0, 1, 63, 64, MAX}) {
            CHECK.due("getLog(" + i + ")", x.getLog(i), 0);
        }
        CHECK.sentence("no handles given out (`getLastHandle()` is 0, `getLiveCount()` is 0).");
        CHECK.due("getLastHandle()", x.getLastHandle(), 0);
        CHECK.due("getLiveCount()", x.getLiveCount(), 0);
        CHECK.sentence("Consequently `getResult()` is 0 and `currentCo()` is 0.");
        CHECK.due("getResult()", x.getResult(), 0);
        CHECK.due("currentCo()", x.currentCo(), 0);
        newHandles(x);
    }

    private static void newHandles(StackfulCoro x) {
        for (int h : HANDLES) {
            CHECK.sentence("`coStatus(h)` is `CO_DEAD` for every h, since main is DEAD in LOADING.");
            CHECK.due("coStatus(" + h + ")", x.coStatus(h), StackfulCoro.CO_DEAD);
            CHECK.sentence("`getDepth`, `getReg` and `getPendingCleanups` answer 0 for every argument.");
            CHECK.due("getDepth(" + h + ")", x.getDepth(h), 0);
            CHECK.due("getPendingCleanups(" + h + ")", x.getPendingCleanups(h), 0);
            for (int r : REGS) {
                CHECK.due("getReg(" + h + ", " + r + ")", x.getReg(h, r), 0);
            }
        }
    }
}
