/** Promise 7, sentence by sentence: frames, registers and pending cleanups of handles with and without frames. */
public final class Boundary07FramesTest {
    private static final Check CHECK = new Check();
    private static final int MIN = Integer.MIN_VALUE;
    private static final int MAX = Integer.MAX_VALUE;
    private static final int[] REGS = {MIN, MIN + 1, -8, -1, 0, 1, 2, 3, 4, 5, 6, 7, 8, 9, 15, 16, MAX - 1, MAX};

    public static void main(String[] args) {
        depthCountsFrames();
        depthOfDeadAndUnknown();
        depthWithoutFrames();
        registersOfTheTopFrame();
        registersWithoutFrames();
        registersOfDeadAndUnknown();
        registersOutOfRange();
        topFrameOfSuspended();
        pendingIsASum();
        pendingWrapsAround();
        pendingWithoutFrames();
        deadAnswersZero();
        deadStaysZero();
        gettersChangeNothing();
        CHECK.end();
    }

    private static void allZero(String what, StackfulCoro x, int h) {
        CHECK.due(what + ": getDepth(" + h + ")", x.getDepth(h), 0);
        CHECK.due(what + ": getPendingCleanups(" + h + ")", x.getPendingCleanups(h), 0);
        for (int r : REGS) {
            CHECK.due(what + ": getReg(" + h + ", " + r + ")", x.getReg(h, r), 0);
        }
    }

    // A coroutine goes down to its sixth frame and back, while main stands in its second.
    private static void depthCountsFrames() {
        CHECK.sentence("`getDepth(h)` answers the number of frames held by handle h (0 = main).");
        StackfulCoro x = Asm.started(1, 6, Asm.create(1, 4), Asm.call(2, 2, 1), Asm.resume(2, 0, 7), Asm.ret(2),
                Asm.loadk(1, 1), Asm.add(0, 0, 1), Asm.loadk(2, 6), Asm.lt(2, 0, 2), Asm.jz(2, 10), Asm.call(3, 4, 0), Asm.ret(0));
        CHECK.due("started", x.getDepth(0), 1);
        x.run(2);
        CHECK.due("called", x.getDepth(0), 2);
        x.run(1);
        for (int depth = 1; depth <= 6; depth++) {
            CHECK.due("getDepth(1) going down", x.getDepth(1), depth);
            CHECK.due("getDepth(0)", x.getDepth(0), 2);
            x.run(depth < 6 ? 6 : 5);
        }
        for (int depth = 6; depth >= 1; depth--) {
            CHECK.due("getDepth(1) coming back", x.getDepth(1), depth);
            x.run(1);
        }
        CHECK.due("returned", x.getDepth(1), 0);
        CHECK.due("main still in its second frame", x.getDepth(0), 2);
        x.run(1);
        CHECK.due("main back in its first", x.getDepth(0), 1);
    }

    private static void depthOfDeadAndUnknown() {
        CHECK.sentence("It answers 0 for DEAD coroutines and unknown handles.");
        for (int steps = 0; steps <= Scene.STEPS; steps++) {
            StackfulCoro x = Scene.at(Scene.RETURNS, steps);
            for (int h : new int[] {MIN, -2, -1, 1, 2, 3, 4, 5, 6, 30, MAX}) {
                if (x.coStatus(h) == StackfulCoro.CO_DEAD) {
                    CHECK.due("getDepth(" + h + ") after " + steps, x.getDepth(h), 0);
                }
            }
        }
        StackfulCoro x = Scene.at(Scene.RETURNS, 17);
        CHECK.due("handle 2 before it returns", x.getDepth(2), 1);
        x.run(1);
        CHECK.due("handle 2 after it returned", x.getDepth(2), 0);
    }

    private static void depthWithoutFrames() {
        CHECK.sentence("It also answers 0 for a coroutine created but not yet started, and for main outside state RUNNING.");
        StackfulCoro x = Asm.load(1, 1, Asm.create(1, 2), Asm.resume(2, 1, 0), Asm.ret(0));
        CHECK.due("loading", x.getDepth(0), 0);
        x.start(0, 0);
        CHECK.due("started", x.getDepth(0), 1);
        x.run(1);
        CHECK.due("created", x.getDepth(1), 0);
        x.run(1);
        CHECK.due("resumed", x.getDepth(1), 1);
        x.run(1);
        CHECK.due("main goes on", x.getDepth(0), 1);
        x.run(1);
        CHECK.due("done", x.getDepth(0), 0);
        StackfulCoro failed = Asm.started(1, 3, Asm.call(1, 1, 0), Asm.error(0));
        failed.run(1);
        CHECK.due("before it fails", failed.getDepth(0), 2);
        failed.run(1);
        CHECK.due("failed", failed.getDepth(0), 0);
    }

    // The caller and the called frame hold different numbers in all eight registers.
    private static StackfulCoro twoFrames() {
        StackfulCoro x = new StackfulCoro(1, 2);
        for (int r = 0; r < 8; r++) {
            x.emit(StackfulCoro.OP_LOADK, r, 100 + r, 0);
        }
        x.emit(StackfulCoro.OP_CALL, 4, 10, 0);
        x.emit(StackfulCoro.OP_JMP, 9, 0, 0);
        for (int r = 0; r < 8; r++) {
            x.emit(StackfulCoro.OP_LOADK, r, 200 + r, 0);
        }
        x.emit(StackfulCoro.OP_RET, 7, 0, 0);
        x.start(0, 0);
        return x;
    }

    private static void registersOfTheTopFrame() {
        CHECK.sentence("`getReg(h, r)` answers register r of the top frame of handle h (0 = main).");
        StackfulCoro x = twoFrames();
        x.run(8);
        CHECK.regs("the caller", x, 0, 100, 101, 102, 103, 104, 105, 106, 107);
        x.run(1);
        CHECK.regs("just called", x, 0, 100, 0, 0, 0, 0, 0, 0, 0);
        x.run(8);
        CHECK.regs("the called", x, 0, 200, 201, 202, 203, 204, 205, 206, 207);
        x.run(1);
        CHECK.regs("the caller again", x, 0, 100, 101, 102, 103, 207, 105, 106, 107);
    }

    private static void registersWithoutFrames() {
        CHECK.sentence("h has no frames;");
        allZero("empty", new StackfulCoro(4, 6), 0);
        allZero("loaded", Scene.loaded(), 0);
        for (int[] end : new int[][] {Asm.ret(1), Asm.error(1)}) {
            StackfulCoro x = Asm.started(1, 1, Asm.loadk(1, 5), Asm.defer(1), Asm.create(2, 0), end);
            x.run(3);
            allZero("created", x, 1);
            CHECK.due("before the end", x.getReg(0, 1), 5);
            x.run(1);
            allZero("main after op " + end[0], x, 0);
            allZero("created, after the end", x, 1);
        }
    }

    private static void registersOfDeadAndUnknown() {
        CHECK.sentence("h is unknown or DEAD;");
        StackfulCoro x = twoFrames();
        x.run(17);
        for (int h : new int[] {MIN, MIN + 1, -30, -6, -1, 1, 2, 3, 4, 5, 6, 30, MAX}) {
            allZero("unknown", x, h);
        }
    }

    private static void registersOutOfRange() {
        CHECK.sentence("r is outside 0..7.");
        StackfulCoro x = twoFrames();
        x.run(17);
        for (int r : REGS) {
            CHECK.due("getReg(0, " + r + ") in the second frame", x.getReg(0, r), r >= 0 && r <= 7 ? 200 + r : 0);
        }
        x.run(1);
        for (int r : REGS) {
            int inside = r == 4 ? 207 : 100 + r;
            CHECK.due("getReg(0, " + r + ") in the first frame", x.getReg(0, r), r >= 0 && r <= 7 ? inside : 0);
        }
        StackfulCoro y = Asm.started(2, 2, Asm.create(1, 3), Asm.resume(2, 1, 1), Asm.jmp(2),
                Asm.create(1, 5), Asm.resume(2, 1, 0), Asm.loadk(7, 8), Asm.loadk(0, 9));
        y.run(6);
        for (int h = 1; h <= 2; h++) {
            for (int r : REGS) {
                if (r < 0 || r > 7) {
                    CHECK.due("getReg(" + h + ", " + r + ")", y.getReg(h, r), 0);
                }
            }
        }
    }

    private static void topFrameOfSuspended() {
        CHECK.sentence("For a suspended coroutine, the top frame is the one in which it yielded.");
        StackfulCoro x = Asm.started(1, 6, Asm.create(1, 3), Asm.resume(2, 1, 7), Asm.jmp(1),
                Asm.loadk(6, 10), Asm.add(5, 0, 6), Asm.yieldTo(5, 7), Asm.call(3, 3, 5), Asm.ret(0));
        x.run(1);
        for (int depth = 1; depth <= 6; depth++) {
            x.run(depth == 1 ? 4 : 6);
            CHECK.due("suspended in frame " + depth, x.coStatus(1), StackfulCoro.CO_SUSPENDED);
            CHECK.regs("frame " + depth, x, 1, 10 * (depth - 1), 0, 0, 0, 0, 10 * depth, 10, 0);
        }
    }

    // Each of six frames has four tags; tag i of frame d is 1 << (4d + i), so the sum tells each of them.
    private static void pendingIsASum() {
        CHECK.sentence("`getPendingCleanups(h)` answers the sum of the pending cleanup tags over all frames of handle h (0 = main), "
                + "added with Java int wrap-around.");
        StackfulCoro x = Asm.load(1, 6, Asm.defer(0), Asm.add(0, 0, 0), Asm.defer(0), Asm.add(0, 0, 0), Asm.defer(0), Asm.add(0, 0, 0),
                Asm.defer(0), Asm.add(0, 0, 0), Asm.call(1, 0, 0));
        x.start(0, 1);
        int sum = 0;
        for (int tag = 0; tag < 24; tag++) {
            CHECK.due(tag + " tags", x.getPendingCleanups(0), sum);
            x.run(1);
            sum += 1 << tag;
            CHECK.due(tag + 1 + " tags", x.getPendingCleanups(0), sum);
            x.run(tag % 4 == 3 ? 2 : 1);
        }
        CHECK.due("the seventh frame", x.getState(), StackfulCoro.ST_FAILED);
        CHECK.due("nothing pending", x.getPendingCleanups(0), 0);
    }

    private static void pendingWrapsAround() {
        pendingOfFour(MAX, MAX, 0, 0, -2);
        pendingOfFour(MAX, 1, 0, 0, MIN);
        pendingOfFour(MAX, 0, 0, 0, MAX);
        pendingOfFour(MIN, -1, 0, 0, MAX);
        pendingOfFour(MIN, 0, 0, 0, MIN);
        pendingOfFour(MIN, MIN, 0, 0, 0);
        pendingOfFour(MAX, MAX, MAX, MAX, -4);
        pendingOfFour(MIN, MIN, MIN, 1, MIN + 1);
    }

    private static void pendingOfFour(int p, int q, int s, int t, int want) {
        StackfulCoro x = Asm.started(1, 2, Asm.loadk(1, p), Asm.defer(1), Asm.loadk(1, q), Asm.defer(1), Asm.call(1, 5, 0),
                Asm.loadk(1, s), Asm.defer(1), Asm.loadk(1, t), Asm.defer(1));
        x.run(9);
        CHECK.due(p + " + " + q + " + " + s + " + " + t, x.getPendingCleanups(0), want);
        StackfulCoro co = Asm.started(1, 1, Asm.create(1, 2), Asm.resume(2, 1, 0),
                Asm.loadk(1, p), Asm.defer(1), Asm.loadk(1, q), Asm.defer(1), Asm.loadk(1, s), Asm.defer(1), Asm.loadk(1, t), Asm.defer(1));
        co.run(10);
        CHECK.due(p + " + " + q + " + " + s + " + " + t + " in a coroutine", co.getPendingCleanups(1), want);
        CHECK.due("main has none", co.getPendingCleanups(0), 0);
    }

    private static void pendingWithoutFrames() {
        CHECK.sentence("It answers 0 if h has no frames.");
        StackfulCoro x = Asm.load(1, 1, Asm.create(1, 4), Asm.defer(1), Asm.close(2, 1), Asm.ret(0), Asm.ret(0));
        CHECK.due("loading", x.getPendingCleanups(0), 0);
        x.start(0, 0);
        CHECK.due("started, no tags", x.getPendingCleanups(0), 0);
        x.run(2);
        CHECK.due("main's tag", x.getPendingCleanups(0), 1);
        CHECK.due("created", x.getPendingCleanups(1), 0);
        x.run(1);
        CHECK.due("closed", x.getPendingCleanups(1), 0);
        x.run(1);
        CHECK.due("done", x.getPendingCleanups(0), 0);
    }

    // A coroutine with two frames, registers and tags, which dies in one of four ways.
    private static StackfulCoro mortal(int[] death, int[] afterwards) {
        return Asm.started(1, 2, Asm.create(1, 5), Asm.resume(2, 1, 1), afterwards, Asm.jmp(0), Asm.jmp(4),
                Asm.loadk(7, 70), Asm.defer(7), Asm.call(1, 9, 7), Asm.ret(7), Asm.loadk(6, 60), Asm.defer(6), death, Asm.ret(6));
    }

    private static void deadAnswersZero() {
        CHECK.sentence("For every DEAD handle h >= 1, these three methods answer 0 for all arguments.");
        for (int[][] way : Scene.deaths()) {
            StackfulCoro x = mortal(way[0], way[1]);
            x.run(7);
            CHECK.due("alive: getDepth(1)", x.getDepth(1), 2);
            CHECK.due("alive: getReg(1, 6)", x.getReg(1, 6), 60);
            CHECK.due("alive: getPendingCleanups(1)", x.getPendingCleanups(1), 130);
            for (int step = 0; x.coStatus(1) != StackfulCoro.CO_DEAD && step < 10; step++) {
                x.run(1);
            }
            CHECK.due("dead by op " + way[0][0], x.coStatus(1), StackfulCoro.CO_DEAD);
            allZero("dead by op " + way[0][0], x, 1);
            allZero("never given out", x, 2);
        }
    }

    private static void deadStaysZero() {
        CHECK.sentence("If h has been given out (h <= `getLastHandle()`), this also holds after every later call.");
        for (int[][] way : Scene.deaths()) {
            StackfulCoro x = mortal(way[0], way[1]);
            for (int step = 0; step < 150; step++) {
                x.run(1);
                x.start(0, 0);
                for (int h = 1; h < x.getLastHandle(); h++) {
                    allZero("dead by op " + way[0][0] + ", its room taken again", x, h);
                }
            }
            CHECK.due("many died by op " + way[0][0], x.getLastHandle() > 9, true);
        }
    }

    private static void gettersChangeNothing() {
        CHECK.sentence("None of them changes anything.");
        for (int steps = 0; steps <= Scene.STEPS; steps++) {
            StackfulCoro x = Scene.at(Scene.RETURNS, steps);
            for (int h : new int[] {MIN, -1, 0, 1, 2, 3, 4, MAX}) {
                x.getDepth(h);
                x.getPendingCleanups(h);
                for (int r : REGS) {
                    x.getReg(h, r);
                }
            }
            CHECK.sameFuture(Scene.name(Scene.RETURNS, steps), x, Scene.at(Scene.RETURNS, steps));
        }
    }
}
