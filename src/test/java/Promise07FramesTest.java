/** Promise 7: getDepth, getReg and getPendingCleanups. */
public final class Promise07FramesTest {
    private static final Check CHECK = new Check();
    private static final int MIN = Integer.MIN_VALUE;
    private static final int MAX = Integer.MAX_VALUE;

    public static void main(String[] args) {
        mainFrames();
        suspendedFrames();
        unknownHandles();
        tagsWrapAround();
        gettersChangeNothing();
        CHECK.end();
    }

    private static void frames(String when, StackfulCoro x, int h, int depth, int pending) {
        CHECK.due(when + ": getDepth(" + h + ")", x.getDepth(h), depth);
        CHECK.due(when + ": getPendingCleanups(" + h + ")", x.getPendingCleanups(h), pending);
    }

    private static void allZero(String when, StackfulCoro x, int h) {
        frames(when, x, h, 0, 0);
        for (int r : new int[] {MIN, -1, 0, 1, 2, 3, 4, 5, 6, 7, 8, MAX}) {
            CHECK.due(when + ": getReg(" + h + ", " + r + ")", x.getReg(h, r), 0);
        }
    }

    private static void mainFrames() {
        StackfulCoro x = Asm.load(1, 3, Asm.loadk(1, 10), Asm.defer(1), Asm.call(2, 4, 1), Asm.ret(2),
                Asm.loadk(7, 20), Asm.defer(7), Asm.defer(7), Asm.ret(7));
        allZero("loading", x, 0);
        x.start(0, 3);
        frames("started", x, 0, 1, 0);
        x.run(2);
        frames("one tag", x, 0, 1, 10);
        CHECK.due("getReg(0, 1)", x.getReg(0, 1), 10);
        x.run(1);
        frames("called", x, 0, 2, 10);
        CHECK.due("getReg(0, 1) is the top frame's", x.getReg(0, 1), 0);
        x.run(3);
        frames("tags of both frames", x, 0, 2, 50);
        int[] want = {10, 0, 0, 0, 0, 0, 0, 20};
        for (int r = 0; r < 8; r++) {
            CHECK.due("getReg(0, " + r + ")", x.getReg(0, r), want[r]);
        }
        for (int r : new int[] {MIN, -8, -1, 8, 9, 15, 16, MAX}) {
            CHECK.due("getReg(0, " + r + ")", x.getReg(0, r), 0);
        }
        x.run(1);
        frames("returned", x, 0, 1, 10);
        CHECK.due("getReg(0, 2)", x.getReg(0, 2), 20);
        CHECK.due("getReg(0, 8) is nothing of the frame that was", x.getReg(0, 8), 0);
        x.run(1);
        allZero("done", x, 0);
        StackfulCoro y = Asm.ran(1, 2, Asm.loadk(1, 4), Asm.defer(1), Asm.error(1));
        allZero("failed", y, 0);
    }

    private static void suspendedFrames() {
        StackfulCoro x = Asm.started(1, 2,
                Asm.create(1, 5), Asm.resume(2, 1, 1), Asm.close(2, 1), Asm.create(1, 10), Asm.jmp(4),
                Asm.loadk(6, 8), Asm.defer(6), Asm.call(1, 8, 6), Asm.defer(0), Asm.yieldTo(0, 5), Asm.ret(0));
        x.run(1);
        allZero("created", x, 1);
        x.run(6);
        frames("yielded", x, 1, 2, 16);
        CHECK.due("getReg(1, 0) of the frame that yielded", x.getReg(1, 0), 8);
        CHECK.due("getReg(1, 6) is not the first frame's", x.getReg(1, 6), 0);
        frames("main", x, 0, 1, 0);
        x.run(1);
        allZero("closed", x, 1);
        x.run(1);
        allZero("its room is taken", x, 1);
        allZero("the next one is new", x, 2);
    }

    private static void unknownHandles() {
        StackfulCoro x = Asm.started(4, 2, Asm.loadk(0, 5), Asm.defer(0), Asm.jmp(2));
        x.run(2);
        for (int h : new int[] {MIN, -5, -1, 1, 2, 3, 4, 5, 6, 30, MAX}) {
            allZero("unknown", x, h);
        }
    }

    private static void tagsWrapAround() {
        StackfulCoro x = Asm.started(1, 2, Asm.loadk(1, MAX), Asm.defer(1), Asm.defer(1), Asm.defer(1),
                Asm.call(2, 5, 1), Asm.defer(0), Asm.loadk(1, -1), Asm.defer(1));
        x.run(3);
        CHECK.due("twice the greatest", x.getPendingCleanups(0), MAX + MAX);
        x.run(1);
        CHECK.due("three times", x.getPendingCleanups(0), MAX + MAX + MAX);
        x.run(4);
        CHECK.due("over two frames", x.getPendingCleanups(0), MAX + MAX + MAX + MAX - 1);
    }

    private static void gettersChangeNothing() {
        StackfulCoro x = Asm.started(1, 2, Asm.loadk(1, 6), Asm.defer(1), Asm.create(2, 5), Asm.resume(3, 2, 1), Asm.ret(1),
                Asm.defer(0), Asm.yieldTo(0, 1));
        x.run(6);
        for (int i = 0; i < 3; i++) {
            frames("main, round " + i, x, 0, 1, 6);
            frames("handle 1, round " + i, x, 1, 1, 6);
            CHECK.due("getReg(0, 3), round " + i, x.getReg(0, 3), 6);
            CHECK.due("getReg(0, 4), round " + i, x.getReg(0, 4), 1);
        }
        CHECK.log("no cleanup performed", x);
    }
}
