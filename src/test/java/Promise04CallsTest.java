/** Promise 4, CALL, RET, DEFER and ERROR inside one thread. */
public final class Promise04CallsTest {
    private static final Check CHECK = new Check();

    public static void main(String[] args) {
        argumentAndAnswer();
        callerKeepsItsFrame();
        calledFramesAreNew();
        stackFull();
        cleanupsOnReturn();
        fourCleanupsPerFrame();
        errorUnwindsAll();
        CHECK.end();
    }

    private static void argumentAndAnswer() {
        StackfulCoro x = Asm.started(1, 2, Asm.loadk(3, 20), Asm.call(3, 3, 3), Asm.ret(3),
                Asm.add(5, 0, 0), Asm.ret(5));
        x.run(2);
        CHECK.due("r0 of the called frame", x.getReg(0, 0), 20);
        for (int r = 1; r < 8; r++) {
            CHECK.due("r" + r + " of the called frame", x.getReg(0, r), 0);
        }
        CHECK.due("getDepth(0)", x.getDepth(0), 2);
        CHECK.due("the rest", x.run(1000), 3);
        CHECK.ended("call and return", x, StackfulCoro.ST_DONE, 40);
    }

    private static void callerKeepsItsFrame() {
        StackfulCoro x = Asm.started(1, 2, Asm.loadk(0, 1), Asm.loadk(1, 2), Asm.loadk(7, 3), Asm.call(2, 6, 7),
                Asm.jmp(4), Asm.jmp(5),
                Asm.loadk(1, 50), Asm.loadk(2, 60), Asm.loadk(7, 70), Asm.ret(7));
        x.run(8);
        int[] want = {1, 2, 70, 0, 0, 0, 0, 3};
        for (int r = 0; r < 8; r++) {
            CHECK.due("r" + r + " of the caller", x.getReg(0, r), want[r]);
        }
        CHECK.due("getDepth(0)", x.getDepth(0), 1);
    }

    private static void calledFramesAreNew() {
        StackfulCoro x = Asm.ran(1, 2, Asm.call(1, 3, 0), Asm.call(2, 3, 0), Asm.ret(0),
                Asm.out(1), Asm.out(7), Asm.loadk(1, 5), Asm.loadk(7, 6), Asm.defer(1), Asm.ret(1));
        CHECK.log("the second call sees nothing of the first", x, 0, 0, 5, 0, 0, 5);
    }

    private static void stackFull() {
        StackfulCoro x = Asm.load(1, 3, Asm.defer(0), Asm.loadk(1, 1), Asm.add(2, 0, 1), Asm.call(3, 0, 2), Asm.ret(3));
        x.start(0, 10);
        x.run(11);
        CHECK.due("three frames", x.getDepth(0), 3);
        CHECK.due("getPendingCleanups(0)", x.getPendingCleanups(0), 33);
        CHECK.due("the fourth fails at once", x.run(1000), 1);
        CHECK.ended("stack full", x, StackfulCoro.ST_FAILED, StackfulCoro.ERR_STACK);
        CHECK.log("stack full", x, 12, 11, 10);
        StackfulCoro one = Asm.ran(1, 1, Asm.call(1, 2, 0), Asm.ret(0), Asm.ret(0));
        CHECK.ended("maxDepth 1 allows no call", one, StackfulCoro.ST_FAILED, StackfulCoro.ERR_STACK);
        StackfulCoro again = Asm.ran(1, 2, Asm.call(1, 3, 0), Asm.call(1, 3, 0), Asm.ret(0), Asm.ret(0));
        CHECK.ended("a returned frame makes room", again, StackfulCoro.ST_DONE, 0);
    }

    private static void cleanupsOnReturn() {
        StackfulCoro x = Asm.started(1, 2,
                Asm.loadk(1, 1), Asm.defer(1), Asm.call(2, 6, 0), Asm.out(2), Asm.loadk(3, 9), Asm.ret(3),
                Asm.loadk(1, 2), Asm.defer(1), Asm.loadk(1, 3), Asm.defer(1), Asm.loadk(1, 4), Asm.ret(1));
        x.run(7);
        CHECK.due("getPendingCleanups(0)", x.getPendingCleanups(0), 6);
        x.run(1);
        CHECK.log("right before RET", x);
        x.run(1);
        CHECK.log("the called frame's tags, latest first", x, 3, 2);
        CHECK.due("the caller's tag stays", x.getPendingCleanups(0), 1);
        x.run(1000);
        CHECK.log("main's tag comes when main returns", x, 3, 2, 4, 1);
        CHECK.ended("with cleanups", x, StackfulCoro.ST_DONE, 9);
    }

    private static void fourCleanupsPerFrame() {
        StackfulCoro x = Asm.started(1, 2,
                Asm.loadk(1, 1), Asm.defer(1), Asm.call(2, 3, 0),
                Asm.loadk(1, 10), Asm.defer(1), Asm.defer(1), Asm.defer(1), Asm.loadk(1, 20), Asm.defer(1), Asm.defer(1));
        x.run(9);
        CHECK.due("four in the frame", x.getPendingCleanups(0), 51);
        CHECK.due("still running", x.getState(), StackfulCoro.ST_RUNNING);
        x.run(1);
        CHECK.ended("the fifth", x, StackfulCoro.ST_FAILED, StackfulCoro.ERR_CLEANUP_FULL);
        CHECK.log("the fifth is not added", x, 20, 10, 10, 10, 1);
    }

    private static void errorUnwindsAll() {
        for (int e : new int[] {Integer.MIN_VALUE, -1, 0, 1, 42, Integer.MAX_VALUE}) {
            StackfulCoro x = Asm.load(1, 3, Asm.loadk(1, 1), Asm.defer(1), Asm.call(2, 3, 0),
                    Asm.loadk(1, 2), Asm.defer(1), Asm.call(2, 6, 0),
                    Asm.loadk(1, 3), Asm.defer(1), Asm.loadk(1, 4), Asm.defer(1), Asm.error(0));
            x.start(0, e);
            CHECK.due("run", x.run(1000), 11);
            CHECK.ended("ERROR", x, StackfulCoro.ST_FAILED, e);
            CHECK.log("ERROR", x, 4, 3, 2, 1);
            CHECK.due("getDepth(0)", x.getDepth(0), 0);
            CHECK.due("getPendingCleanups(0)", x.getPendingCleanups(0), 0);
        }
    }
}
