/** Promise 4, run and the step: the clamp of steps, the count answered, and the pc past the code. */
public final class Promise04RunTest {
    private static final Check CHECK = new Check();

    public static void main(String[] args) {
        stepsAreClamped();
        notRunning();
        lastStepCounts();
        runInPieces();
        pcPastTheCode();
        pcPastTheCodeInCoroutine();
        bodyPastTheCode();
        CHECK.end();
    }

    private static void stepsAreClamped() {
        int[][] clamps = {
            {Integer.MIN_VALUE, 1}, {-1000, 1}, {-1, 1}, {0, 1}, {1, 1}, {2, 2}, {998, 998},
            {999, 999}, {1000, 1000}, {1001, 1000}, {5000, 1000}, {Integer.MAX_VALUE, 1000}
        };
        for (int[] c : clamps) {
            StackfulCoro x = new StackfulCoro(1, 1);
            for (int i = 0; i < 63; i++) {
                x.emit(StackfulCoro.OP_ADD, 1, 1, 0);
            }
            x.emit(StackfulCoro.OP_JMP, 0, 0, 0);
            x.start(0, 1);
            CHECK.due("run(" + c[0] + ")", x.run(c[0]), c[1]);
            CHECK.due("run(" + c[0] + "): additions done", x.getReg(0, 1), c[1] - c[1] / 64);
            CHECK.due("run(" + c[0] + "): getState()", x.getState(), StackfulCoro.ST_RUNNING);
        }
    }

    private static void notRunning() {
        StackfulCoro loading = Asm.load(1, 1, Asm.out(0));
        StackfulCoro done = Asm.ran(1, 1, Asm.out(0), Asm.ret(0));
        StackfulCoro failed = Asm.ran(1, 1, Asm.out(0), Asm.error(0));
        for (StackfulCoro x : new StackfulCoro[] {loading, done, failed}) {
            int state = x.getState();
            int logged = x.getLogCount();
            for (int steps : new int[] {-1, 0, 1, 1000}) {
                CHECK.due("run(" + steps + ") in state " + state, x.run(steps), 0);
            }
            CHECK.due("state stays", x.getState(), state);
            CHECK.due("log stays", x.getLogCount(), logged);
        }
        CHECK.due("a machine that was run too early still starts", loading.start(0, 0), true);
    }

    private static void lastStepCounts() {
        CHECK.due("run to RET", Asm.started(1, 1, Asm.loadk(0, 1), Asm.ret(0)).run(1000), 2);
        CHECK.due("run to ERROR", Asm.started(1, 1, Asm.loadk(0, 1), Asm.error(0)).run(1000), 2);
        CHECK.due("run to the end of the code", Asm.started(1, 1, Asm.loadk(0, 1)).run(1000), 2);
    }

    private static void runInPieces() {
        StackfulCoro x = Asm.started(1, 1, Asm.loadk(0, 1), Asm.loadk(1, 2), Asm.loadk(2, 3), Asm.ret(2));
        CHECK.due("first piece", x.run(2), 2);
        CHECK.due("r1 is set", x.getReg(0, 1), 2);
        CHECK.due("r2 is not yet set", x.getReg(0, 2), 0);
        CHECK.due("second piece", x.run(1), 1);
        CHECK.due("r2 is set", x.getReg(0, 2), 3);
        CHECK.due("last piece", x.run(2), 1);
        CHECK.ended("in pieces", x, StackfulCoro.ST_DONE, 3);
    }

    private static void pcPastTheCode() {
        StackfulCoro x = Asm.started(1, 3, Asm.loadk(1, 5), Asm.defer(1), Asm.call(2, 63, 1));
        CHECK.due("the call itself is taken", x.run(3), 3);
        CHECK.due("still running", x.getState(), StackfulCoro.ST_RUNNING);
        CHECK.due("in the called frame", x.getDepth(0), 2);
        CHECK.due("the next step fails", x.run(1000), 1);
        CHECK.ended("called past the code", x, StackfulCoro.ST_FAILED, StackfulCoro.ERR_BAD_PC);
        CHECK.log("called past the code", x, 5);
    }

    private static void pcPastTheCodeInCoroutine() {
        StackfulCoro x = Asm.ran(1, 2,
                Asm.create(1, 5), Asm.resume(2, 1, 0), Asm.out(2), Asm.out(3), Asm.ret(2),
                Asm.loadk(1, 8), Asm.defer(1));
        CHECK.log("a coroutine falls off the code", x, 8, StackfulCoro.ERR_BAD_PC, 0);
        CHECK.ended("a coroutine falls off the code", x, StackfulCoro.ST_DONE, StackfulCoro.ERR_BAD_PC);
        CHECK.due("it is dead", x.coStatus(1), StackfulCoro.CO_DEAD);
    }

    private static void bodyPastTheCode() {
        StackfulCoro x = Asm.started(1, 1, Asm.create(1, 3), Asm.resume(2, 1, 0), Asm.ret(2));
        CHECK.due("the resume is taken", x.run(2), 2);
        CHECK.due("the coroutine is current", x.currentCo(), 1);
        CHECK.due("it has its frame", x.getDepth(1), 1);
        x.run(1);
        CHECK.due("one step ends it", x.currentCo(), 0);
        CHECK.due("the error is delivered", x.getReg(0, 2), StackfulCoro.ERR_BAD_PC);
    }
}
