/** "What it is", sentence by sentence: what the promises after it say of single calls, seen over whole runs. */
public final class WhatItIsTest {
    private static final Check CHECK = new Check();
    private static final int MIN = Integer.MIN_VALUE;
    private static final int MAX = Integer.MAX_VALUE;

    public static void main(String[] args) {
        instructionsOneByOne();
        fourFields();
        nothingRunsBeforeRun();
        anyBudgetsGiveTheSameRun();
        mainIsHandleZero();
        handlesInOrderOfCreation();
        manyHandles();
        oldAmongMany();
        ownStacks();
        frameHoldsRegisters();
        frameHoldsPcAndTags();
        yieldsFromDeepInside();
        gettersOfOneMoment();
        CHECK.end();
    }

    private static void instructionsOneByOne() {
        CHECK.sentence("A program of at most 64 instructions, each with four fields (op,a,b,c), is loaded one instruction per call to `emit`.");
        for (int length = 1; length <= 65; length++) {
            StackfulCoro x = new StackfulCoro(1, 1);
            for (int i = 0; i < length; i++) {
                x.emit(StackfulCoro.OP_ADD, 0, 0, 1);
            }
            int held = length < 64 ? length : 64;
            CHECK.due(length + " calls", x.getCodeLength(), held);
            x.start(0, 0);
            CHECK.due(length + " calls: a step for each and one past them", x.run(1000), held + 1);
            CHECK.ended(length + " calls", x, StackfulCoro.ST_FAILED, StackfulCoro.ERR_BAD_PC);
        }
    }

    // Two instructions that differ in one field alone do two different things, and neither changes the other.
    private static void fourFields() {
        int[][] pairs = {
            {StackfulCoro.OP_ADD, 3, 1, 2, StackfulCoro.OP_SUB, 3, 1, 2, 12, 8},
            {StackfulCoro.OP_SUB, 3, 1, 2, StackfulCoro.OP_SUB, 4, 1, 2, 8, 0},
            {StackfulCoro.OP_SUB, 3, 1, 2, StackfulCoro.OP_SUB, 3, 2, 2, 8, 0},
            {StackfulCoro.OP_SUB, 3, 1, 2, StackfulCoro.OP_SUB, 3, 1, 1, 8, 0},
        };
        for (int[] p : pairs) {
            StackfulCoro x = Asm.started(1, 1, Asm.loadk(1, 10), Asm.loadk(2, 2), new int[] {p[0], p[1], p[2], p[3]}, Asm.out(3),
                    Asm.loadk(3, 0), new int[] {p[4], p[5], p[6], p[7]}, Asm.out(3), Asm.ret(3));
            x.run(1000);
            CHECK.log("op " + p[0] + " and op " + p[4], x, p[8], p[9]);
        }
    }

    private static void nothingRunsBeforeRun() {
        CHECK.sentence("It is then started with `start` and executed under a step budget with `run`.");
        StackfulCoro x = Asm.load(1, 1, Asm.out(0), Asm.out(0), Asm.out(0), Asm.ret(0));
        CHECK.due("run before start", x.run(1000), 0);
        CHECK.log("loaded", x);
        x.start(0, 7);
        CHECK.log("started", x);
        CHECK.due("run(1)", x.run(1), 1);
        CHECK.log("one step", x, 7);
        CHECK.due("run(2)", x.run(2), 2);
        CHECK.log("three steps", x, 7, 7, 7);
        CHECK.ended("three steps", x, StackfulCoro.ST_RUNNING, 0);
        CHECK.due("run(1000)", x.run(1000), 1);
        CHECK.ended("four steps", x, StackfulCoro.ST_DONE, 7);
    }

    private static void anyBudgetsGiveTheSameRun() {
        for (int ending = Scene.RETURNS; ending <= Scene.FAILS; ending++) {
            for (int first = 1; first < Scene.STEPS; first++) {
                for (int second = 1; first + second <= Scene.STEPS; second++) {
                    StackfulCoro x = Scene.at(ending, 0);
                    CHECK.due("run(" + first + ")", x.run(first), first);
                    CHECK.due("then run(" + second + ")", x.run(second), second);
                    String what = "run(" + first + "), run(" + second + ")";
                    CHECK.unchanged(what, x, Snapshot.of(Scene.at(ending, first + second)));
                }
            }
        }
    }

    private static void mainIsHandleZero() {
        CHECK.sentence("The main thread has handle 0.");
        StackfulCoro x = Asm.load(1, 2, Asm.running(1), Asm.status(2, 1), Asm.resume(3, 1, 1), Asm.create(5, 6), Asm.resume(6, 5, 0), Asm.jmp(5),
                Asm.loadk(2, 0), Asm.status(3, 2), Asm.resume(4, 2, 2), Asm.yieldTo(3, 3));
        x.start(0, 44);
        CHECK.due("currentCo()", x.currentCo(), 0);
        CHECK.due("getReg(0, 0)", x.getReg(0, 0), 44);
        x.run(3);
        CHECK.regs("main asks for itself", x, 0, 44, 0, StackfulCoro.CO_RUNNING, StackfulCoro.ERR_NOT_SUSPENDED, 0, 0, 0, 0);
        x.run(5);
        CHECK.regs("a coroutine asks for main", x, 1, 44, 0, 0, StackfulCoro.CO_NORMAL, StackfulCoro.ERR_NOT_SUSPENDED, 0, 0, 0);
        x.run(1);
        CHECK.due("back in main: currentCo()", x.currentCo(), 0);
        CHECK.due("main is no coroutine: getLiveCount()", x.getLiveCount(), 1);
        CHECK.due("main is no coroutine: getLastHandle()", x.getLastHandle(), 1);
    }

    // Main makes 1; 1 makes 2 and 3; 2 makes 4. The order of resuming, 1 then 3 then 2, plays no part.
    private static void handlesInOrderOfCreation() {
        CHECK.sentence("Coroutines get handles 1, 2, 3, ... in order of creation, and a handle is never reused.");
        StackfulCoro x = Asm.started(4, 1, Asm.create(1, 4), Asm.out(1), Asm.resume(2, 1, 0), Asm.ret(0),
                Asm.create(1, 11), Asm.out(1), Asm.create(2, 10), Asm.out(2), Asm.resume(3, 2, 0), Asm.jmp(14),
                Asm.ret(0),
                Asm.create(1, 10), Asm.out(1), Asm.ret(0),
                Asm.resume(3, 1, 0), Asm.create(5, 10), Asm.out(5), Asm.ret(5));
        x.run(1000);
        CHECK.log("made by main, 1, 1, 2 and 1", x, 1, 2, 3, 4, 5);
        CHECK.ended("and done", x, StackfulCoro.ST_DONE, 0);
        CHECK.due("getLastHandle()", x.getLastHandle(), 5);
    }

    // Far more than the live ones, and more than a byte or a short can number; each dies before the next is made.
    private static void manyHandles() {
        StackfulCoro x = Asm.started(4, 1, Asm.create(1, 6), Asm.close(2, 1), Asm.create(1, 6), Asm.resume(2, 1, 1), Asm.jmp(0), Asm.jmp(5),
                Asm.ret(0));
        int handles = 140000;
        int wrong = 0;
        for (int h = 1; h < handles; h += 2) {
            x.run(1);
            wrong += x.getReg(0, 1) == h && x.getLastHandle() == h && x.coStatus(h) == StackfulCoro.CO_SUSPENDED ? 0 : 1;
            x.run(2);
            wrong += x.getReg(0, 1) == h + 1 && x.coStatus(h) == StackfulCoro.CO_DEAD ? 0 : 1;
            x.run(3);
            wrong += x.getReg(0, 2) == h + 1 && x.coStatus(h + 1) == StackfulCoro.CO_DEAD ? 0 : 1;
        }
        CHECK.due("wrong answers among " + handles + " handles", wrong, 0);
        x.run(1);
        int alive = 0;
        for (int h = 1; h <= handles + 3; h++) {
            alive += x.coStatus(h) == StackfulCoro.CO_DEAD ? 0 : 1;
        }
        CHECK.due("only the newest is alive", alive, 1);
        CHECK.due("the newest", x.coStatus(handles + 1), StackfulCoro.CO_SUSPENDED);
        CHECK.due("getLiveCount()", x.getLiveCount(), 1);
    }

    // Handle 1 stands suspended in its second frame while many others are made, run and die, and then it goes on.
    private static void oldAmongMany() {
        int last = 70000;
        for (int maxCo = 2; maxCo <= 4; maxCo++) {
            StackfulCoro x = Asm.started(maxCo, 2, Asm.create(1, 10), Asm.resume(2, 1, 0), Asm.loadk(0, last),
                    Asm.create(5, 14), Asm.resume(6, 5, 5), Asm.lt(4, 5, 0), Asm.jz(4, 8), Asm.jmp(3), Asm.resume(2, 1, 5), Asm.ret(2),
                    Asm.loadk(7, 17), Asm.defer(7), Asm.call(3, 13, 7), Asm.yieldTo(0, 6), Asm.ret(0));
            x.run(7);
            int wrong = 0;
            for (int h = 2; h <= last; h++) {
                x.run(1);
                wrong += x.getLiveCount() == 2 && x.coStatus(1) == StackfulCoro.CO_SUSPENDED && x.getLastHandle() == h ? 0 : 1;
                x.run(2);
                wrong += x.getLiveCount() == 1 && x.getDepth(1) == 2 && x.getPendingCleanups(1) == 17 && x.getReg(0, 6) == h ? 0 : 1;
                x.run(3);
            }
            CHECK.due("maxCo " + maxCo + ": wrong answers about the old one and the counts", wrong, 0);
            CHECK.due("maxCo " + maxCo + ": it goes on", x.currentCo(), 1);
            CHECK.regs("maxCo " + maxCo + ": its second frame", x, 1, 17, 0, 0, 0, 0, 0, last, 0);
            x.run(1);
            CHECK.regs("maxCo " + maxCo + ": its first frame", x, 1, 0, 0, 0, 17, 0, 0, 0, 17);
            CHECK.due("maxCo " + maxCo + ": its tag", x.getPendingCleanups(1), 17);
        }
    }

    // Thread t goes down to t + 2 frames with tags 1 to t + 1, and there makes and resumes the next; 4 is the last.
    private static StackfulCoro staircase() {
        StackfulCoro x = Asm.load(4, 6, Asm.running(1), Asm.loadk(3, 1), Asm.add(2, 1, 3), Asm.call(4, 5, 2), Asm.ret(4),
                Asm.defer(0), Asm.loadk(1, 1), Asm.sub(2, 0, 1), Asm.jz(2, 11), Asm.call(3, 5, 2), Asm.ret(3),
                Asm.running(5), Asm.loadk(6, 4), Asm.lt(6, 5, 6), Asm.jz(6, 18), Asm.create(7, 0), Asm.resume(3, 7, 0), Asm.ret(3),
                Asm.loadk(0, 99), Asm.defer(0), Asm.ret(0));
        x.start(0, 0);
        for (int step = 0; step < 1000 && !(x.currentCo() == 4 && x.getReg(4, 0) == 99); step++) {
            x.run(1);
        }
        return x;
    }

    private static void ownStacks() {
        CHECK.sentence("Every thread holds its own stack of frames.");
        StackfulCoro x = staircase();
        standsOnStairs("all five", x, 5);
        x.run(1);
        CHECK.due("one tag more in 4", x.getPendingCleanups(4), 5 * 6 / 2 + 99);
        standsOnStairs("after a DEFER in 4", x, 4);
        CHECK.due("RET in 4", x.run(1), 1);
        CHECK.due("getDepth(4)", x.getDepth(4), 5);
        standsOnStairs("after a RET in 4", x, 4);
        x.run(5);
        CHECK.due("4 is dead after all its RETs", x.coStatus(4), StackfulCoro.CO_DEAD);
        CHECK.due("getDepth(4)", x.getDepth(4), 0);
        CHECK.due("what 4 answered", x.getReg(3, 3), 99);
        standsOnStairs("without 4", x, 4);
    }

    private static void standsOnStairs(String what, StackfulCoro x, int threads) {
        for (int t = 0; t < threads; t++) {
            CHECK.due(what + ": getDepth(" + t + ")", x.getDepth(t), t + 2);
            CHECK.due(what + ": getPendingCleanups(" + t + ")", x.getPendingCleanups(t), (t + 1) * (t + 2) / 2);
            CHECK.due(what + ": getReg(" + t + ", 5)", x.getReg(t, 5), t);
        }
    }

    private static void frameHoldsRegisters() {
        CHECK.sentence("A frame holds registers r0..r7 (ints), a pc, and a list of at most 4 pending cleanup tags (ints).");
        int[] values = {MIN, MAX, MIN + 1, MAX - 1, -1, 65536, -65537, 0x12345678};
        StackfulCoro x = new StackfulCoro(1, 2);
        x.emit(StackfulCoro.OP_CALL, 0, 2, 0);
        x.emit(StackfulCoro.OP_RET, 0, 0, 0);
        for (int r = 0; r < 8; r++) {
            x.emit(StackfulCoro.OP_LOADK, r, values[r], 0);
        }
        x.start(0, 5);
        x.run(9);
        CHECK.regs("ints in all eight", x, 0, values);
        StackfulCoro tags = Asm.started(1, 1, Asm.loadk(1, MIN), Asm.defer(1), Asm.loadk(1, MAX), Asm.defer(1), Asm.loadk(1, -65537), Asm.defer(1),
                Asm.loadk(1, 0x12345678), Asm.defer(1), Asm.ret(0));
        tags.run(8);
        CHECK.due("four ints are pending", tags.getPendingCleanups(0), MIN + MAX - 65537 + 0x12345678);
        tags.run(1);
        CHECK.log("four ints", tags, 0x12345678, -65537, MAX, MIN);
        StackfulCoro fifth = Asm.ran(1, 1, Asm.defer(0), Asm.defer(0), Asm.defer(0), Asm.defer(0), Asm.defer(0));
        CHECK.ended("a fifth tag", fifth, StackfulCoro.ST_FAILED, StackfulCoro.ERR_CLEANUP_FULL);
        CHECK.log("a fifth tag", fifth, 0, 0, 0, 0);
    }

    // One function called at two places from two frames: each frame goes on at its own pc, with its own tags.
    private static void frameHoldsPcAndTags() {
        StackfulCoro x = Asm.started(1, 3, Asm.loadk(1, 10), Asm.defer(1), Asm.call(2, 6, 1), Asm.call(3, 9, 2), Asm.add(4, 2, 3), Asm.ret(4),
                Asm.loadk(1, 20), Asm.defer(1), Asm.call(0, 9, 1),
                Asm.loadk(1, 30), Asm.defer(1), Asm.add(0, 0, 1), Asm.ret(0));
        x.run(6);
        CHECK.due("three frames, two tags", x.getPendingCleanups(0), 30);
        CHECK.due("getDepth(0)", x.getDepth(0), 3);
        x.run(4);
        CHECK.log("the third frame's tag", x, 30);
        CHECK.due("the second frame goes on after its CALL", x.getReg(0, 0), 20 + 30);
        CHECK.due("with its own tag and the first one's", x.getPendingCleanups(0), 30);
        x.run(1000);
        CHECK.log("each frame's own", x, 30, 30, 20, 30, 10);
        CHECK.ended("80 from the second frame, 110 from the function", x, StackfulCoro.ST_DONE, 80 + 110);
    }

    // Frame d of the coroutine holds d in r0, 10d in r6, and a tag d; it yields in frame 6 and sums up on its way back.
    private static StackfulCoro diver() {
        return Asm.load(2, 6, Asm.create(1, 10), Asm.resume(2, 1, 0), Asm.create(3, 24), Asm.resume(4, 3, 3), Asm.resume(4, 3, 3),
                Asm.call(6, 24, 1), Asm.loadk(7, 1000), Asm.resume(2, 1, 7), Asm.out(2), Asm.ret(2),
                Asm.loadk(1, 1), Asm.add(0, 0, 1), Asm.defer(0), Asm.add(6, 0, 0), Asm.add(5, 6, 6), Asm.add(5, 5, 0), Asm.add(6, 5, 5),
                Asm.loadk(2, 6), Asm.sub(2, 0, 2), Asm.jz(2, 22), Asm.call(3, 10, 0), Asm.jmp(25),
                Asm.yieldTo(6, 3), Asm.jmp(25),
                Asm.ret(0),
                Asm.out(6), Asm.add(3, 3, 6), Asm.ret(3));
    }

    private static void yieldsFromDeepInside() {
        CHECK.sentence("A coroutine may yield from deep inside nested calls and later continue exactly where it stopped.");
        StackfulCoro x = diver();
        x.start(0, 0);
        for (int step = 0; step < 1000 && x.getReg(0, 3) != 1; step++) {
            x.run(1);
        }
        CHECK.due("yielded: getDepth(1)", x.getDepth(1), 6);
        CHECK.due("yielded: getReg(0, 2)", x.getReg(0, 2), 60);
        Snapshot before = Snapshot.of(x);
        CHECK.regs("frame 6", x, 1, 6, 1, 0, 0, 0, 30, 60, 0);
        CHECK.due("six tags", x.getPendingCleanups(1), 21);
        for (int step = 0; step < 1000 && x.getReg(0, 7) != 1000; step++) {
            x.run(1);
            CHECK.due("getDepth(1) while others run", x.getDepth(1), 6);
            CHECK.regs("frame 6 while others run", x, 1, 6, 1, 0, 0, 0, 30, 60, 0);
            CHECK.due("six tags while others run", x.getPendingCleanups(1), 21);
        }
        CHECK.due("others ran", Snapshot.of(x).difference(before).isEmpty(), false);
        x.run(1);
        CHECK.regs("continued", x, 1, 6, 1, 0, 1000, 0, 30, 60, 0);
        x.run(1000);
        CHECK.log("each frame as it was left", x, 60, 6, 50, 5, 40, 4, 30, 3, 20, 2, 10, 1, 1210);
        CHECK.ended("the sum", x, StackfulCoro.ST_DONE, 1210);
    }

    // Handle 2 is dead, 1 is suspended in its second frame, 3 is new, and main has logged twice.
    private static void gettersOfOneMoment() {
        StackfulCoro x = Asm.load(3, 2, Asm.create(1, 9), Asm.resume(2, 1, 0), Asm.create(4, 13), Asm.resume(5, 4, 0), Asm.create(4, 13),
                Asm.out(2), Asm.defer(4), Asm.out(5), Asm.error(0),
                Asm.loadk(1, 31), Asm.defer(1), Asm.call(2, 12, 1), Asm.yieldTo(0, 0), Asm.ret(0));
        x.start(0, 8);
        x.run(13);
        CHECK.sentence("Getters expose the machine state and result, and the status, depth, top-frame registers and pending cleanups of any handle.");
        CHECK.ended("running", x, StackfulCoro.ST_RUNNING, 0);
        handleIs(x, 0, StackfulCoro.CO_RUNNING, 1, 3, 8, 1, 31, 1, 3, 8, 1, 0);
        handleIs(x, 1, StackfulCoro.CO_SUSPENDED, 2, 31, 31, 0, 0, 0, 0, 0, 0, 0);
        handleIs(x, 2, StackfulCoro.CO_DEAD, 0, 0, 0, 0, 0, 0, 0, 0, 0, 0);
        handleIs(x, 3, StackfulCoro.CO_SUSPENDED, 0, 0, 0, 0, 0, 0, 0, 0, 0, 0);
        handleIs(x, 4, StackfulCoro.CO_DEAD, 0, 0, 0, 0, 0, 0, 0, 0, 0, 0);
        handleIs(x, -1, StackfulCoro.CO_DEAD, 0, 0, 0, 0, 0, 0, 0, 0, 0, 0);
        CHECK.sentence("They also expose the live count, the last handle, the log and the code length.");
        CHECK.due("getLiveCount()", x.getLiveCount(), 2);
        CHECK.due("getLastHandle()", x.getLastHandle(), 3);
        CHECK.log("twice", x, 31, 8);
        CHECK.due("getCodeLength()", x.getCodeLength(), 14);
        x.run(1);
        CHECK.ended("one step later", x, StackfulCoro.ST_FAILED, 8);
        handleIs(x, 0, StackfulCoro.CO_DEAD, 0, 0, 0, 0, 0, 0, 0, 0, 0, 0);
        handleIs(x, 1, StackfulCoro.CO_SUSPENDED, 2, 31, 31, 0, 0, 0, 0, 0, 0, 0);
        CHECK.log("main's tag", x, 31, 8, 3);
    }

    private static void handleIs(StackfulCoro x, int h, int status, int depth, int pending, int... regs) {
        CHECK.due("coStatus(" + h + ")", x.coStatus(h), status);
        CHECK.due("getDepth(" + h + ")", x.getDepth(h), depth);
        CHECK.due("getPendingCleanups(" + h + ")", x.getPendingCleanups(h), pending);
        CHECK.regs("handle " + h, x, h, regs);
    }
}
