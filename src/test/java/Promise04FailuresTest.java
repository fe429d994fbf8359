/** Promise 4, failures: of RESUME and WRESUME, of a coroutine, raised in chains, and YIELD in main. */
public final class Promise04FailuresTest {
    private static final Check CHECK = new Check();

    public static void main(String[] args) {
        resumeOfNoCoroutine();
        resumeOfMainAndSelf();
        resumeOfNormal();
        resumeOfReturnedAndFailed();
        wresumeFailureIsRaised();
        yieldInMain();
        errorUnwindsTheCoroutineOnly();
        chainToMain();
        chainIsCaught();
        errorsInsideCoroutines();
        CHECK.end();
    }

    private static void resumeOfNoCoroutine() {
        for (int h : new int[] {Integer.MIN_VALUE, -1, 1, 2, 5, Integer.MAX_VALUE}) {
            StackfulCoro x = Asm.started(2, 1, Asm.loadk(1, h), Asm.loadk(3, 9), Asm.resume(2, 1, 0), Asm.ret(2));
            x.run(3);
            CHECK.due("RESUME of " + h, x.getReg(0, 2), StackfulCoro.ERR_DEAD);
            CHECK.due("its flag", x.getReg(0, 3), 0);
            CHECK.due("main goes on", x.run(9), 1);
            StackfulCoro y = Asm.ran(2, 1, Asm.loadk(1, h), Asm.wresume(2, 1, 0), Asm.ret(2));
            CHECK.ended("WRESUME of " + h, y, StackfulCoro.ST_FAILED, StackfulCoro.ERR_DEAD);
        }
    }

    private static void resumeOfMainAndSelf() {
        StackfulCoro main = Asm.started(1, 1, Asm.loadk(2, 9), Asm.resume(1, 0, 0), Asm.jmp(2));
        main.run(2);
        CHECK.due("main resumes main", main.getReg(0, 1), StackfulCoro.ERR_NOT_SUSPENDED);
        CHECK.due("its flag", main.getReg(0, 2), 0);
        CHECK.due("coStatus(0)", main.coStatus(0), StackfulCoro.CO_RUNNING);
        CHECK.ended("main wraps main", Asm.ran(1, 1, Asm.wresume(1, 0, 0)), StackfulCoro.ST_FAILED, StackfulCoro.ERR_NOT_SUSPENDED);
        StackfulCoro x = Asm.started(1, 1, Asm.create(1, 3), Asm.resume(2, 1, 1), Asm.ret(2),
                Asm.resume(2, 0, 0), Asm.out(2), Asm.out(3), Asm.resume(2, 7, 0), Asm.out(2), Asm.out(3), Asm.ret(0));
        x.run(1000);
        CHECK.log("a coroutine resumes itself and main", x,
                StackfulCoro.ERR_NOT_SUSPENDED, 0, StackfulCoro.ERR_NOT_SUSPENDED, 0);
        CHECK.ended("and goes on", x, StackfulCoro.ST_DONE, 1);
    }

    private static void resumeOfNormal() {
        StackfulCoro x = Asm.ran(2, 1, Asm.create(1, 3), Asm.resume(2, 1, 1), Asm.ret(2),
                Asm.create(1, 6), Asm.resume(2, 1, 0), Asm.ret(2),
                Asm.resume(2, 0, 0), Asm.out(2), Asm.out(3), Asm.wresume(2, 0, 0), Asm.out(2));
        CHECK.log("resume of the resumer", x, StackfulCoro.ERR_NOT_SUSPENDED, 0);
        CHECK.ended("its wrapped form fails the coroutine", x, StackfulCoro.ST_DONE, StackfulCoro.ERR_NOT_SUSPENDED);
        CHECK.due("coStatus(1)", x.coStatus(1), StackfulCoro.CO_DEAD);
        CHECK.due("coStatus(2)", x.coStatus(2), StackfulCoro.CO_DEAD);
    }

    private static void resumeOfReturnedAndFailed() {
        int[][] bodies = {Asm.ret(0), Asm.error(0)};
        for (int[] body : bodies) {
            StackfulCoro x = Asm.started(1, 1, Asm.create(1, 6), Asm.resume(2, 1, 0), Asm.resume(2, 1, 0), Asm.create(4, 6),
                    Asm.resume(6, 1, 0), Asm.jmp(5), body);
            x.run(4);
            CHECK.due("second resume", x.getReg(0, 2), StackfulCoro.ERR_DEAD);
            CHECK.due("its flag", x.getReg(0, 3), 0);
            x.run(2);
            CHECK.due("still dead when its room is taken", x.getReg(0, 6), StackfulCoro.ERR_DEAD);
            CHECK.due("the new one is untouched", x.coStatus(2), StackfulCoro.CO_SUSPENDED);
        }
    }

    private static void wresumeFailureIsRaised() {
        StackfulCoro x = Asm.ran(1, 2, Asm.loadk(1, 1), Asm.defer(1), Asm.create(1, 5), Asm.call(2, 6, 1), Asm.ret(2),
                Asm.error(0), Asm.loadk(1, 2), Asm.defer(1), Asm.wresume(2, 0, 0), Asm.out(2));
        CHECK.ended("error in a wrapped coroutine", x, StackfulCoro.ST_FAILED, 1);
        CHECK.log("main is unwound", x, 2, 1);
    }

    private static void yieldInMain() {
        StackfulCoro x = Asm.ran(1, 2, Asm.loadk(1, 1), Asm.defer(1), Asm.call(2, 4, 0), Asm.ret(2), Asm.yieldTo(0, 0));
        CHECK.ended("YIELD in main", x, StackfulCoro.ST_FAILED, StackfulCoro.ERR_YIELD_MAIN);
        CHECK.log("YIELD in main", x, 1);
    }

    private static void errorUnwindsTheCoroutineOnly() {
        StackfulCoro x = Asm.started(1, 2,
                Asm.loadk(1, 9), Asm.defer(1), Asm.create(1, 7), Asm.loadk(3, 5), Asm.resume(2, 1, 3), Asm.ret(2), Asm.ret(2),
                Asm.loadk(1, 1), Asm.defer(1), Asm.call(2, 10, 0),
                Asm.loadk(1, 2), Asm.defer(1), Asm.loadk(1, 3), Asm.defer(1), Asm.error(0));
        x.run(13);
        CHECK.log("the coroutine's tags from the top frame down", x, 3, 2, 1);
        CHECK.due("r2 is the error", x.getReg(0, 2), 5);
        CHECK.due("r3 tells failure", x.getReg(0, 3), 0);
        CHECK.due("coStatus(1)", x.coStatus(1), StackfulCoro.CO_DEAD);
        CHECK.due("getDepth(1)", x.getDepth(1), 0);
        CHECK.due("main's tag is pending", x.getPendingCleanups(0), 9);
        CHECK.due("main goes on", x.run(1000), 1);
        CHECK.log("main returned", x, 3, 2, 1, 9);
    }

    // Main wraps 1, which wraps 2, 3 and 4: each thread defers its own handle, and 4 raises.
    private static StackfulCoro chain(int[] mainResume) {
        return Asm.started(4, 1,
                Asm.loadk(7, 100), Asm.defer(7), Asm.create(1, 6), mainResume, Asm.out(2), Asm.ret(2),
                Asm.running(1), Asm.defer(1), Asm.loadk(2, 4), Asm.lt(3, 1, 2), Asm.jz(3, 14),
                Asm.create(4, 6), Asm.wresume(5, 4, 0), Asm.ret(5),
                Asm.loadk(6, 66), Asm.error(6));
    }

    private static void chainToMain() {
        StackfulCoro x = chain(Asm.wresume(2, 1, 0));
        x.run(4 + 3 * 7 + 5 + 1);
        CHECK.due("all live", x.getLiveCount(), 4);
        CHECK.due("the fourth is current", x.currentCo(), 4);
        for (int h = 0; h < 4; h++) {
            CHECK.due("coStatus(" + h + ")", x.coStatus(h), StackfulCoro.CO_NORMAL);
        }
        CHECK.due("one step ends all", x.run(1), 1);
        CHECK.ended("chain", x, StackfulCoro.ST_FAILED, 66);
        CHECK.log("chain", x, 4, 3, 2, 1, 100);
        CHECK.due("none live", x.getLiveCount(), 0);
    }

    private static void chainIsCaught() {
        StackfulCoro x = chain(Asm.resume(2, 1, 0));
        x.run(4 + 3 * 7 + 5 + 1 + 1);
        CHECK.due("main is current", x.currentCo(), 0);
        CHECK.due("main is running", x.coStatus(0), StackfulCoro.CO_RUNNING);
        CHECK.due("r2 is the error", x.getReg(0, 2), 66);
        CHECK.due("r3 tells failure", x.getReg(0, 3), 0);
        CHECK.log("caught", x, 4, 3, 2, 1);
        CHECK.due("none live", x.getLiveCount(), 0);
        CHECK.due("the rest", x.run(1000), 2);
        CHECK.ended("caught", x, StackfulCoro.ST_DONE, 66);
    }

    private static void errorsInsideCoroutines() {
        int[][][] bodies = {
            {Asm.call(1, 5, 0)},
            {Asm.defer(0), Asm.jmp(5)},
            {Asm.close(1, 0)},
            {Asm.wresume(1, 7, 0), Asm.ret(1)},
        };
        int[] errors = {StackfulCoro.ERR_STACK, StackfulCoro.ERR_CLEANUP_FULL, StackfulCoro.ERR_CLOSE_ACTIVE,
            StackfulCoro.ERR_NOT_SUSPENDED};
        for (int i = 0; i < bodies.length; i++) {
            StackfulCoro x = Asm.load(1, 4, Asm.create(1, 5), Asm.resume(2, 1, 1), Asm.out(3), Asm.ret(2), Asm.ret(2));
            for (int[] instruction : bodies[i]) {
                Asm.emit(x, instruction);
            }
            x.start(0, 0);
            x.run(1000);
            CHECK.ended("error " + errors[i] + " in a coroutine", x, StackfulCoro.ST_DONE, errors[i]);
            CHECK.due("it is delivered as failure", x.getLog(x.getLogCount() - 1), 0);
            CHECK.due("the coroutine is dead", x.coStatus(1), StackfulCoro.CO_DEAD);
        }
    }
}
