/** Promise 4, the instructions that stay inside one frame, and the log's bound. */
public final class Promise04InstructionsTest {
    private static final Check CHECK = new Check();
    private static final int MIN = Integer.MIN_VALUE;
    private static final int MAX = Integer.MAX_VALUE;

    public static void main(String[] args) {
        loadAndMove();
        arithmetic();
        sameRegisterTwice();
        jumps();
        runningHandle();
        statuses();
        logHoldsSixtyFour();
        logDropsCleanups();
        CHECK.end();
    }

    private static void loadAndMove() {
        for (int v : new int[] {MIN, -1, 0, 1, 64, MAX}) {
            StackfulCoro x = Asm.started(1, 1, Asm.loadk(7, v), Asm.move(0, 7), Asm.loadk(7, 3));
            x.run(3);
            CHECK.due("MOVE copies " + v, x.getReg(0, 0), v);
            CHECK.due("and only copies", x.getReg(0, 7), 3);
            for (int r = 1; r < 7; r++) {
                CHECK.due("r" + r + " stays", x.getReg(0, r), 0);
            }
        }
    }

    private static void arithmetic() {
        int[] values = {MIN, MIN + 1, -2, -1, 0, 1, 2, MAX - 1, MAX};
        for (int p : values) {
            for (int q : values) {
                StackfulCoro x = Asm.started(1, 1, Asm.loadk(1, p), Asm.loadk(2, q),
                        Asm.add(3, 1, 2), Asm.sub(4, 1, 2), Asm.lt(5, 1, 2));
                x.run(5);
                CHECK.due(p + " + " + q, x.getReg(0, 3), p + q);
                CHECK.due(p + " - " + q, x.getReg(0, 4), p - q);
                CHECK.due(p + " < " + q, x.getReg(0, 5), p < q ? 1 : 0);
                CHECK.due("the operands stay", x.getReg(0, 1) == p && x.getReg(0, 2) == q, true);
            }
        }
    }

    private static void sameRegisterTwice() {
        StackfulCoro x = Asm.started(1, 1, Asm.loadk(1, 21), Asm.add(1, 1, 1), Asm.move(2, 1),
                Asm.sub(2, 2, 2), Asm.loadk(2, 9), Asm.lt(1, 1, 2));
        x.run(2);
        CHECK.due("ADD onto itself", x.getReg(0, 1), 42);
        x.run(2);
        CHECK.due("SUB from itself", x.getReg(0, 2), 0);
        x.run(2);
        CHECK.due("LT onto its operand", x.getReg(0, 1), 0);
    }

    private static void jumps() {
        StackfulCoro forth = Asm.ran(1, 1, Asm.jmp(2), Asm.error(0), Asm.ret(0));
        CHECK.ended("JMP forward", forth, StackfulCoro.ST_DONE, 0);
        for (int v : new int[] {MIN, -1, 0, 1, MAX}) {
            StackfulCoro x = Asm.ran(1, 1, Asm.loadk(1, v), Asm.jz(1, 4), Asm.loadk(2, 10), Asm.ret(2),
                    Asm.loadk(2, 20), Asm.ret(2));
            CHECK.ended("JZ on " + v, x, StackfulCoro.ST_DONE, v == 0 ? 20 : 10);
        }
        StackfulCoro loop = Asm.load(1, 1, Asm.loadk(1, 1), Asm.jz(0, 5), Asm.out(0), Asm.sub(0, 0, 1),
                Asm.jmp(1), Asm.ret(0));
        loop.start(0, 3);
        CHECK.due("steps of the loop", loop.run(1000), 15);
        CHECK.log("the loop", loop, 3, 2, 1);
    }

    private static void runningHandle() {
        StackfulCoro x = Asm.ran(2, 1, Asm.loadk(4, 9), Asm.running(4), Asm.out(4),
                Asm.create(1, 9), Asm.create(2, 9), Asm.resume(5, 2, 0), Asm.resume(5, 1, 0), Asm.running(4), Asm.ret(4),
                Asm.running(3), Asm.out(3), Asm.ret(3));
        CHECK.log("RUNNING", x, 0, 2, 1);
        CHECK.ended("RUNNING", x, StackfulCoro.ST_DONE, 0);
        StackfulCoro later = Asm.ran(1, 1, Asm.create(1, 5), Asm.close(2, 1), Asm.create(1, 5), Asm.resume(2, 1, 0), Asm.ret(2),
                Asm.running(3), Asm.ret(3));
        CHECK.ended("RUNNING in handle 2, the only one live", later, StackfulCoro.ST_DONE, 2);
    }

    private static void statuses() {
        StackfulCoro x = Asm.ran(2, 1,
                Asm.create(1, 13), Asm.loadk(2, -1), Asm.status(3, 2), Asm.out(3), Asm.loadk(2, 2), Asm.status(2, 2),
                Asm.out(2), Asm.status(3, 1), Asm.out(3), Asm.resume(3, 1, 1), Asm.status(3, 1), Asm.out(3), Asm.ret(3),
                Asm.status(1, 0), Asm.out(1), Asm.status(1, 2), Asm.out(1), Asm.ret(1));
        CHECK.log("STATUS of unknown, unknown, new, self, main from a coroutine, returned", x,
                StackfulCoro.CO_DEAD, StackfulCoro.CO_DEAD, StackfulCoro.CO_SUSPENDED,
                StackfulCoro.CO_RUNNING, StackfulCoro.CO_NORMAL, StackfulCoro.CO_DEAD);
        StackfulCoro main = Asm.ran(1, 1, Asm.loadk(4, 7), Asm.status(4, 0), Asm.ret(4));
        CHECK.ended("STATUS of main by main", main, StackfulCoro.ST_DONE, StackfulCoro.CO_RUNNING);
    }

    private static void logHoldsSixtyFour() {
        StackfulCoro x = Asm.load(1, 1, Asm.loadk(1, 1), Asm.out(0), Asm.add(0, 0, 1), Asm.jmp(1));
        x.start(0, 100);
        x.run(1 + 3 * 63 + 1);
        CHECK.due("the 64th entry", x.getLogCount(), 64);
        CHECK.due("getLog(63)", x.getLog(63), 163);
        x.run(500);
        CHECK.due("still 64", x.getLogCount(), 64);
        for (int i = 0; i < 64; i++) {
            CHECK.due("getLog(" + i + ")", x.getLog(i), 100 + i);
        }
        CHECK.due("getLog(64)", x.getLog(64), 0);
    }

    private static void logDropsCleanups() {
        StackfulCoro x = Asm.load(1, 1, Asm.loadk(1, 1), Asm.loadk(2, 7), Asm.defer(2), Asm.loadk(2, 8), Asm.defer(2),
                Asm.jz(0, 9), Asm.out(0), Asm.sub(0, 0, 1), Asm.jmp(5), Asm.ret(0));
        x.start(0, 63);
        x.run(1000);
        CHECK.due("state", x.getState(), StackfulCoro.ST_DONE);
        CHECK.due("getLogCount()", x.getLogCount(), 64);
        CHECK.due("the last OUT", x.getLog(62), 1);
        CHECK.due("the latest tag is kept", x.getLog(63), 8);
        CHECK.due("the earlier tag is dropped", x.getLog(64), 0);
    }
}
