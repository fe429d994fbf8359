/** Promise 1: the clamps of maxCo and maxDepth, and what a new machine answers. */
public final class Promise01ConstructionTest {
    private static final Check CHECK = new Check();
    private static final int MIN = Integer.MIN_VALUE;
    private static final int MAX = Integer.MAX_VALUE;

    public static void main(String[] args) {
        int[][] coClamps = {{MIN, 1}, {-1, 1}, {0, 1}, {1, 1}, {2, 2}, {3, 3}, {4, 4}, {5, 4}, {100, 4}, {MAX, 4}};
        for (int[] c : coClamps) {
            liveCoroutines(c[0], c[1]);
        }
        int[][] depthClamps = {{MIN, 1}, {-1, 1}, {0, 1}, {1, 1}, {2, 2}, {3, 3}, {4, 4}, {5, 5}, {6, 6}, {7, 6}, {MAX, 6}};
        for (int[] d : depthClamps) {
            framesOfMain(d[0], d[1]);
            framesOfCoroutine(d[0], d[1]);
        }
        newMachine(2, 3);
        newMachine(MIN, MAX);
        CHECK.end();
    }

    private static void liveCoroutines(int maxCo, int clamped) {
        StackfulCoro x = Asm.started(maxCo, 1, Asm.create(1, 0), Asm.jmp(0));
        x.run(1000);
        CHECK.ended("maxCo " + maxCo, x, StackfulCoro.ST_FAILED, StackfulCoro.ERR_TOO_MANY);
        CHECK.due("maxCo " + maxCo + ": getLastHandle()", x.getLastHandle(), clamped);
        CHECK.due("maxCo " + maxCo + ": getLiveCount()", x.getLiveCount(), clamped);
    }

    private static void framesOfMain(int maxDepth, int clamped) {
        StackfulCoro x = Asm.started(1, maxDepth, Asm.call(0, 0, 0));
        CHECK.due("maxDepth " + maxDepth + ": run", x.run(clamped - 1 < 1 ? 1 : clamped - 1), clamped - 1 < 1 ? 1 : clamped - 1);
        CHECK.due("maxDepth " + maxDepth + ": getDepth(0)", x.getDepth(0), clamped == 1 ? 0 : clamped);
        x.run(1);
        CHECK.ended("maxDepth " + maxDepth, x, StackfulCoro.ST_FAILED, StackfulCoro.ERR_STACK);
    }

    private static void framesOfCoroutine(int maxDepth, int clamped) {
        StackfulCoro x = Asm.started(1, maxDepth,
                Asm.create(1, 4), Asm.resume(2, 1, 0), Asm.ret(2), Asm.ret(2),
                Asm.call(0, 4, 0));
        x.run(2);
        if (clamped > 1) {
            x.run(clamped - 1);
        }
        CHECK.due("maxDepth " + maxDepth + ": getDepth(1)", x.getDepth(1), clamped);
        x.run(2);
        CHECK.ended("maxDepth " + maxDepth + " in a coroutine", x, StackfulCoro.ST_DONE, StackfulCoro.ERR_STACK);
    }

    private static void newMachine(int maxCo, int maxDepth) {
        StackfulCoro x = new StackfulCoro(maxCo, maxDepth);
        CHECK.ended("new", x, StackfulCoro.ST_LOADING, 0);
        CHECK.due("new: getCodeLength()", x.getCodeLength(), 0);
        CHECK.due("new: getLogCount()", x.getLogCount(), 0);
        CHECK.due("new: getLog(0)", x.getLog(0), 0);
        CHECK.due("new: getLastHandle()", x.getLastHandle(), 0);
        CHECK.due("new: getLiveCount()", x.getLiveCount(), 0);
        CHECK.due("new: currentCo()", x.currentCo(), 0);
        for (int h : new int[] {MIN, -1, 0, 1, 2, 3, 4, 5, 6, MAX}) {
            CHECK.due("new: coStatus(" + h + ")", x.coStatus(h), StackfulCoro.CO_DEAD);
            CHECK.due("new: getDepth(" + h + ")", x.getDepth(h), 0);
            CHECK.due("new: getPendingCleanups(" + h + ")", x.getPendingCleanups(h), 0);
            for (int r : new int[] {MIN, -1, 0, 1, 7, 8, MAX}) {
                CHECK.due("new: getReg(" + h + ", " + r + ")", x.getReg(h, r), 0);
            }
        }
    }
}
