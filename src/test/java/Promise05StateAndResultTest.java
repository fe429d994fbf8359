/** Promise 5: state and result, and that the end of main leaves the coroutines as they are. */
public final class Promise05StateAndResultTest {
    private static final Check CHECK = new Check();

    public static void main(String[] args) {
        throughTheStates();
        endLeavesCoroutines(Asm.ret(1), StackfulCoro.ST_DONE);
        endLeavesCoroutines(Asm.error(1), StackfulCoro.ST_FAILED);
        resultIsZeroUntilTheEnd();
        CHECK.end();
    }

    private static void throughTheStates() {
        for (int v : new int[] {Integer.MIN_VALUE, -7, 0, 1, Integer.MAX_VALUE}) {
            StackfulCoro x = new StackfulCoro(1, 1);
            CHECK.ended("new", x, StackfulCoro.ST_LOADING, 0);
            x.emit(StackfulCoro.OP_JZ, 1, 1, 0);
            x.emit(StackfulCoro.OP_RET, 0, 0, 0);
            CHECK.ended("loaded", x, StackfulCoro.ST_LOADING, 0);
            x.start(0, v);
            CHECK.ended("started", x, StackfulCoro.ST_RUNNING, 0);
            x.run(1);
            CHECK.ended("one step", x, StackfulCoro.ST_RUNNING, 0);
            x.run(1);
            CHECK.ended("returned", x, StackfulCoro.ST_DONE, v);
            x.run(1);
            x.start(0, 1);
            x.emit(StackfulCoro.OP_RET, 0, 0, 0);
            CHECK.ended("stays done", x, StackfulCoro.ST_DONE, v);
            StackfulCoro y = Asm.load(1, 1, Asm.error(0));
            y.start(0, v);
            y.run(5);
            CHECK.ended("failed", y, StackfulCoro.ST_FAILED, v);
            y.run(5);
            CHECK.ended("stays failed", y, StackfulCoro.ST_FAILED, v);
        }
    }

    private static void endLeavesCoroutines(int[] last, int state) {
        StackfulCoro x = Asm.ran(3, 2,
                Asm.create(1, 6), Asm.resume(2, 1, 1), Asm.create(1, 6), Asm.create(3, 11), Asm.resume(4, 3, 0), last,
                Asm.loadk(1, 30), Asm.defer(1), Asm.call(2, 9, 0),
                Asm.defer(0), Asm.yieldTo(0, 3),
                Asm.ret(0));
        CHECK.ended("with coroutines", x, state, 2);
        CHECK.log("no cleanup performed", x);
        CHECK.due("getLiveCount()", x.getLiveCount(), 2);
        CHECK.due("getLastHandle()", x.getLastHandle(), 3);
        CHECK.due("coStatus(1)", x.coStatus(1), StackfulCoro.CO_SUSPENDED);
        CHECK.due("getDepth(1)", x.getDepth(1), 2);
        CHECK.due("getReg(1, 0)", x.getReg(1, 0), 1);
        CHECK.due("getPendingCleanups(1)", x.getPendingCleanups(1), 31);
        CHECK.due("coStatus(2)", x.coStatus(2), StackfulCoro.CO_SUSPENDED);
        CHECK.due("getDepth(2)", x.getDepth(2), 0);
        CHECK.due("coStatus(3)", x.coStatus(3), StackfulCoro.CO_DEAD);
        CHECK.due("coStatus(0)", x.coStatus(0), StackfulCoro.CO_DEAD);
        CHECK.due("getDepth(0)", x.getDepth(0), 0);
        CHECK.due("currentCo()", x.currentCo(), 0);
        x.run(1000);
        CHECK.due("a run after the end changes nothing", x.getPendingCleanups(1), 31);
    }

    private static void resultIsZeroUntilTheEnd() {
        StackfulCoro x = Asm.started(1, 1, Asm.create(1, 4), Asm.loadk(2, 5), Asm.resume(3, 1, 2), Asm.ret(2), Asm.error(0));
        for (int i = 0; i < 4; i++) {
            x.run(1);
            CHECK.ended("step " + i, x, StackfulCoro.ST_RUNNING, 0);
        }
    }
}
