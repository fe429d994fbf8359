/** Promise 3: when start is taken, the frame that main gets, and that start is taken once. */
public final class Promise03StartTest {
    private static final Check CHECK = new Check();

    public static void main(String[] args) {
        refusedWithoutCode();
        entryEdges();
        firstFrame();
        takenOnce();
        CHECK.end();
    }

    private static void refusedWithoutCode() {
        StackfulCoro x = new StackfulCoro(1, 1);
        for (int entry : new int[] {Integer.MIN_VALUE, -1, 0, 1, Integer.MAX_VALUE}) {
            CHECK.due("start(" + entry + ") without code", x.start(entry, 5), false);
        }
        CHECK.ended("no code", x, StackfulCoro.ST_LOADING, 0);
        CHECK.due("emit after a refused start", x.emit(StackfulCoro.OP_RET, 0, 0, 0), true);
    }

    private static void entryEdges() {
        for (int length = 1; length <= 64; length++) {
            StackfulCoro x = new StackfulCoro(1, 1);
            for (int i = 0; i < length; i++) {
                x.emit(StackfulCoro.OP_LOADK, 0, i, 0);
            }
            for (int entry : new int[] {Integer.MIN_VALUE, -1, length, length + 1, 64, Integer.MAX_VALUE}) {
                CHECK.due("start(" + entry + ") of " + length, x.start(entry, 5), false);
            }
            CHECK.due("still loading", x.getState(), StackfulCoro.ST_LOADING);
            CHECK.due("main is dead", x.coStatus(0), StackfulCoro.CO_DEAD);
            CHECK.due("main has no frame", x.getDepth(0), 0);
            CHECK.due("start(" + (length - 1) + ") of " + length, x.start(length - 1, 5), true);
            x.run(1);
            CHECK.due("begins at the entry", x.getReg(0, 0), length - 1);
        }
    }

    private static void firstFrame() {
        for (int arg : new int[] {Integer.MIN_VALUE, -1, 0, 77, Integer.MAX_VALUE}) {
            StackfulCoro x = Asm.load(2, 2, Asm.ret(1), Asm.ret(0));
            CHECK.due("start(1, " + arg + ")", x.start(1, arg), true);
            CHECK.ended("started", x, StackfulCoro.ST_RUNNING, 0);
            CHECK.due("currentCo()", x.currentCo(), 0);
            CHECK.due("coStatus(0)", x.coStatus(0), StackfulCoro.CO_RUNNING);
            CHECK.due("getDepth(0)", x.getDepth(0), 1);
            CHECK.due("getPendingCleanups(0)", x.getPendingCleanups(0), 0);
            CHECK.due("getReg(0, 0)", x.getReg(0, 0), arg);
            for (int r = 1; r < 8; r++) {
                CHECK.due("getReg(0, " + r + ")", x.getReg(0, r), 0);
            }
            CHECK.due("run", x.run(9), 1);
            CHECK.ended("returned its argument", x, StackfulCoro.ST_DONE, arg);
        }
    }

    private static void takenOnce() {
        StackfulCoro running = Asm.started(1, 1, Asm.jmp(0));
        StackfulCoro done = Asm.ran(1, 1, Asm.ret(0));
        StackfulCoro failed = Asm.ran(1, 1, Asm.error(0));
        for (StackfulCoro x : new StackfulCoro[] {running, done, failed}) {
            int state = x.getState();
            CHECK.due("start in state " + state, x.start(0, 9), false);
            CHECK.due("emit in state " + state, x.emit(StackfulCoro.OP_RET, 0, 0, 0), false);
            CHECK.due("state stays", x.getState(), state);
            CHECK.due("r0 stays", x.getReg(0, 0), 0);
        }
    }
}
