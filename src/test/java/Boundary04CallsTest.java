/** Promise 4, sentence by sentence: CALL, RET, DEFER and ERROR, with the stack and the cleanup list empty and full. */
public final class Boundary04CallsTest {
    private static final Check CHECK = new Check();
    private static final int MIN = Integer.MIN_VALUE;
    private static final int MAX = Integer.MAX_VALUE;

    public static void main(String[] args) {
        callWithTheStackFull();
        callWithTheStackFullInCoroutine();
        callerGoesOnAfterTheCall();
        calledFrame();
        calledFrameIsClean();
        answerOfTheCall();
        returnPerformsCleanups();
        returnToTheCaller();
        returnOfMain();
        returnOfCoroutine();
        fifthCleanup();
        fifthCleanupInCoroutine();
        cleanupsPerFrame();
        tagsOfAnyValue();
        error();
        CHECK.end();
    }

    // Each frame defers its depth, so that the log tells which frames there were.
    private static StackfulCoro recursion(int maxDepth) {
        StackfulCoro x = Asm.load(1, maxDepth, Asm.loadk(1, 1), Asm.defer(0), Asm.add(2, 0, 1), Asm.call(3, 0, 2), Asm.ret(0));
        x.start(0, 1);
        return x;
    }

    private static void callWithTheStackFull() {
        CHECK.sentence("CALL: if the thread already has maxDepth frames, ERR_STACK is raised.");
        for (int maxDepth = 1; maxDepth <= 6; maxDepth++) {
            StackfulCoro x = recursion(maxDepth);
            for (int depth = 1; depth < maxDepth; depth++) {
                x.run(4);
                CHECK.due("maxDepth " + maxDepth + ": getDepth(0)", x.getDepth(0), depth + 1);
                CHECK.due("maxDepth " + maxDepth + ": r0", x.getReg(0, 0), depth + 1);
            }
            x.run(3);
            CHECK.due("maxDepth " + maxDepth + ": full", x.getDepth(0), maxDepth);
            CHECK.ended("maxDepth " + maxDepth + ": full", x, StackfulCoro.ST_RUNNING, 0);
            CHECK.due("maxDepth " + maxDepth + ": one more", x.run(1000), 1);
            CHECK.ended("maxDepth " + maxDepth + ": one more", x, StackfulCoro.ST_FAILED, StackfulCoro.ERR_STACK);
            CHECK.due("maxDepth " + maxDepth + ": getLogCount()", x.getLogCount(), maxDepth);
            for (int i = 0; i < maxDepth; i++) {
                CHECK.due("maxDepth " + maxDepth + ": getLog(" + i + ")", x.getLog(i), maxDepth - i);
            }
        }
    }

    // Main has only one frame, so it is the coroutine's own frames that count; main is told and goes on.
    private static void callWithTheStackFullInCoroutine() {
        for (int maxDepth = 1; maxDepth <= 6; maxDepth++) {
            StackfulCoro x = Asm.started(1, maxDepth, Asm.create(1, 4), Asm.resume(2, 1, 0), Asm.out(3), Asm.ret(2),
                    Asm.call(1, 4, 0));
            x.run(2);
            for (int depth = 1; depth < maxDepth; depth++) {
                x.run(1);
            }
            CHECK.due("maxDepth " + maxDepth + ": getDepth(1)", x.getDepth(1), maxDepth);
            CHECK.due("maxDepth " + maxDepth + ": currentCo()", x.currentCo(), 1);
            x.run(1);
            CHECK.due("maxDepth " + maxDepth + ": after the fault", x.currentCo(), 0);
            CHECK.due("maxDepth " + maxDepth + ": getDepth(1)", x.getDepth(1), 0);
            CHECK.due("maxDepth " + maxDepth + ": main's frames", x.getDepth(0), 1);
            x.run(1000);
            CHECK.ended("maxDepth " + maxDepth, x, StackfulCoro.ST_DONE, StackfulCoro.ERR_STACK);
            CHECK.log("maxDepth " + maxDepth, x, 0);
        }
    }

    private static void callerGoesOnAfterTheCall() {
        CHECK.sentence("Otherwise the caller's pc becomes pc+1.");
        for (int address = 1; address < 64; address++) {
            StackfulCoro x = new StackfulCoro(1, 2);
            x.emit(StackfulCoro.OP_RET, 0, 0, 0);
            for (int i = 1; i < 64; i++) {
                Asm.emit(x, i == address ? Asm.call(1, 0, 0) : Asm.loadk(7, i));
            }
            x.start(address, 0);
            x.run(2);
            CHECK.due("back from the CALL at " + address, x.getDepth(0), 1);
            x.run(1);
            if (address < 63) {
                CHECK.due("the instruction after the CALL at " + address, x.getReg(0, 7), address + 1);
            } else {
                CHECK.ended("after the CALL at 63", x, StackfulCoro.ST_FAILED, StackfulCoro.ERR_BAD_PC);
            }
        }
    }

    private static void calledFrame() {
        CHECK.sentence("A frame is then pushed with r0 = r[c] of the caller, r1..r7=0, pc=b and no cleanups.");
        for (int c : new int[] {0, 1, 7}) {
            for (int b : new int[] {0, 1, 62, 63}) {
                for (int arg : new int[] {MIN, -1, 0, 1, MAX}) {
                    StackfulCoro x = new StackfulCoro(1, 2);
                    for (int i = 0; i < 64; i++) {
                        Asm.emit(x, i == 30 ? Asm.loadk(c, arg) : i == 31 ? Asm.defer(c) : i == 32 ? Asm.call(2, b, c)
                                : Asm.loadk(4, i));
                    }
                    x.start(30, 5);
                    x.run(3);
                    String what = "CALL of " + b + " with r" + c + " = " + arg;
                    CHECK.due(what + ": getDepth(0)", x.getDepth(0), 2);
                    CHECK.regs(what, x, 0, arg, 0, 0, 0, 0, 0, 0, 0);
                    CHECK.due(what + ": only the caller's tag", x.getPendingCleanups(0), arg);
                    x.run(1);
                    CHECK.regs(what + ", one step later", x, 0, arg, 0, 0, 0, b, 0, 0, 0);
                }
            }
        }
    }

    // The first call fills all registers and all cleanups of the frame that the second call gets.
    private static void calledFrameIsClean() {
        StackfulCoro x = Asm.started(1, 2, Asm.call(1, 3, 0), Asm.call(1, 3, 0), Asm.ret(1),
                Asm.loadk(0, 10), Asm.loadk(1, 11), Asm.loadk(2, 12), Asm.loadk(3, 13), Asm.loadk(4, 14), Asm.loadk(5, 15),
                Asm.loadk(6, 16), Asm.loadk(7, 17), Asm.defer(0), Asm.defer(1), Asm.defer(2), Asm.defer(3), Asm.ret(7));
        x.run(13);
        CHECK.regs("all set", x, 0, 10, 11, 12, 13, 14, 15, 16, 17);
        CHECK.due("all pending", x.getPendingCleanups(0), 46);
        x.run(2);
        CHECK.regs("the second call", x, 0, 0, 0, 0, 0, 0, 0, 0, 0);
        CHECK.due("nothing pending", x.getPendingCleanups(0), 0);
        x.run(12);
        CHECK.due("room for four again", x.getPendingCleanups(0), 46);
        CHECK.due("still running", x.getState(), StackfulCoro.ST_RUNNING);
    }

    private static void answerOfTheCall() {
        CHECK.sentence("When that frame returns with v, the caller's r[a]=v.");
        for (int a = 0; a < 8; a++) {
            for (int v : new int[] {MIN, -1, 0, 1, MAX}) {
                StackfulCoro x = new StackfulCoro(1, 2);
                for (int r = 0; r < 8; r++) {
                    x.emit(StackfulCoro.OP_LOADK, r, 100 + r, 0);
                }
                x.emit(StackfulCoro.OP_CALL, a, 9, 0);
                x.emit(StackfulCoro.OP_LOADK, 5, v, 0);
                x.emit(StackfulCoro.OP_RET, 5, 0, 0);
                x.start(0, 0);
                x.run(11);
                for (int r = 0; r < 8; r++) {
                    CHECK.due("answer " + v + " into r" + a + ": r" + r, x.getReg(0, r), r == a ? v : 100 + r);
                }
            }
        }
    }

    private static void returnPerformsCleanups() {
        CHECK.sentence("RET: v=r[a]. The top frame's cleanups are performed and the frame is popped.");
        for (int tags = 0; tags <= 4; tags++) {
            StackfulCoro x = new StackfulCoro(1, 2);
            x.emit(StackfulCoro.OP_DEFER, 0, 0, 0);
            x.emit(StackfulCoro.OP_CALL, 1, 3, 0);
            x.emit(StackfulCoro.OP_JMP, 2, 0, 0);
            for (int i = 1; i <= tags; i++) {
                x.emit(StackfulCoro.OP_LOADK, 6, i, 0);
                x.emit(StackfulCoro.OP_DEFER, 6, 0, 0);
            }
            x.emit(StackfulCoro.OP_RET, 0, 0, 0);
            x.start(0, 50);
            x.run(2 + 2 * tags);
            CHECK.due(tags + " tags: getDepth(0)", x.getDepth(0), 2);
            CHECK.log(tags + " tags, before RET", x);
            CHECK.due(tags + " tags: pending", x.getPendingCleanups(0), 50 + tags * (tags + 1) / 2);
            x.run(1);
            CHECK.due(tags + " tags: getDepth(0)", x.getDepth(0), 1);
            CHECK.due(tags + " tags: getLogCount()", x.getLogCount(), tags);
            for (int i = 0; i < tags; i++) {
                CHECK.due(tags + " tags: getLog(" + i + ")", x.getLog(i), tags - i);
            }
            CHECK.due(tags + " tags: the caller's tag is still pending", x.getPendingCleanups(0), 50);
        }
    }

    private static void returnToTheCaller() {
        CHECK.sentence("If frames remain, the caller receives v (see CALL) and continues.");
        StackfulCoro x = Asm.started(1, 6, Asm.loadk(1, 1), Asm.loadk(2, 6), Asm.add(0, 0, 1), Asm.lt(3, 0, 2), Asm.jz(3, 6),
                Asm.call(4, 0, 0), Asm.add(4, 4, 0), Asm.ret(4));
        x.run(6 * 5 + 5);
        for (int depth = 6; depth > 1; depth--) {
            CHECK.due("getDepth(0)", x.getDepth(0), depth);
            x.run(2);
            CHECK.ended("after a return to frame " + (depth - 1), x, StackfulCoro.ST_RUNNING, 0);
        }
        CHECK.due("one frame is left", x.getDepth(0), 1);
        CHECK.due("the rest", x.run(1000), 2);
        CHECK.ended("the sum of all frames", x, StackfulCoro.ST_DONE, 21);
    }

    private static void returnOfMain() {
        CHECK.sentence("Otherwise, if the thread is main: the state becomes DONE, the result is v, and no thread is current.");
        for (int v : new int[] {MIN, -1, 0, 1, MAX}) {
            StackfulCoro x = Asm.load(1, 1, Asm.defer(0), Asm.ret(0));
            x.start(0, v);
            x.run(1);
            CHECK.ended("before", x, StackfulCoro.ST_RUNNING, 0);
            x.run(1);
            CHECK.ended("after", x, StackfulCoro.ST_DONE, v);
            CHECK.due("currentCo()", x.currentCo(), 0);
            CHECK.due("coStatus(0)", x.coStatus(0), StackfulCoro.CO_DEAD);
            CHECK.due("getDepth(0)", x.getDepth(0), 0);
            CHECK.log("its cleanup", x, v);
        }
    }

    // A coroutine whose last frame returns, resumed once by main and once by another coroutine.
    private static void returnOfCoroutine() {
        CHECK.sentence("Otherwise the coroutine becomes DEAD and v is delivered with success to its resumer.");
        for (int v : new int[] {MIN, -1, 0, 1, MAX}) {
            StackfulCoro x = Asm.load(2, 2, Asm.create(1, 3), Asm.resume(2, 1, 0), Asm.jmp(2),
                    Asm.create(1, 6), Asm.resume(4, 1, 0), Asm.ret(4),
                    Asm.call(1, 8, 0), Asm.ret(1), Asm.ret(0));
            x.start(0, v);
            x.run(6);
            CHECK.due("a return with a frame left keeps it running", x.coStatus(2), StackfulCoro.CO_RUNNING);
            x.run(1);
            CHECK.due("coStatus(2)", x.coStatus(2), StackfulCoro.CO_DEAD);
            CHECK.due("getDepth(2)", x.getDepth(2), 0);
            CHECK.due("currentCo()", x.currentCo(), 1);
            CHECK.regs("the resumer", x, 1, v, 2, 0, 0, v, 1, 0, 0);
            x.run(1);
            CHECK.due("coStatus(1)", x.coStatus(1), StackfulCoro.CO_DEAD);
            CHECK.due("currentCo()", x.currentCo(), 0);
            CHECK.regs("main", x, 0, v, 1, v, 1, 0, 0, 0, 0);
            CHECK.ended("main goes on", x, StackfulCoro.ST_RUNNING, 0);
        }
    }

    private static void fifthCleanup() {
        CHECK.sentence("DEFER: if the top frame already has 4 cleanups, ERR_CLEANUP_FULL is raised.");
        StackfulCoro x = Asm.load(1, 1, Asm.loadk(1, 1), Asm.defer(0), Asm.add(0, 0, 1), Asm.jmp(1));
        x.start(0, 1);
        x.run(1);
        int[] pending = {1, 3, 6, 10};
        for (int held = 0; held < 4; held++) {
            x.run(1);
            CHECK.due("DEFER with " + held + " held", x.getPendingCleanups(0), pending[held]);
            CHECK.ended("DEFER with " + held + " held", x, StackfulCoro.ST_RUNNING, 0);
            x.run(2);
        }
        CHECK.log("none performed", x);
        CHECK.due("DEFER with 4 held", x.run(1000), 1);
        CHECK.ended("DEFER with 4 held", x, StackfulCoro.ST_FAILED, StackfulCoro.ERR_CLEANUP_FULL);
        CHECK.log("the fifth is not among them", x, 4, 3, 2, 1);
    }

    private static void fifthCleanupInCoroutine() {
        StackfulCoro x = Asm.started(1, 1, Asm.loadk(4, 90), Asm.defer(4), Asm.create(1, 5), Asm.resume(2, 1, 0), Asm.ret(2),
                Asm.loadk(1, 1), Asm.defer(0), Asm.add(0, 0, 1), Asm.jmp(6));
        x.run(4 + 1 + 3 * 4);
        CHECK.due("four held", x.getPendingCleanups(1), 6);
        x.run(1);
        CHECK.due("coStatus(1)", x.coStatus(1), StackfulCoro.CO_DEAD);
        CHECK.log("the coroutine's own", x, 3, 2, 1, 0);
        CHECK.due("main's is pending", x.getPendingCleanups(0), 90);
        CHECK.due("r2", x.getReg(0, 2), StackfulCoro.ERR_CLEANUP_FULL);
        CHECK.due("r3", x.getReg(0, 3), 0);
    }

    // Six frames with four tags each are full at the same time.
    private static void cleanupsPerFrame() {
        StackfulCoro x = Asm.started(1, 6, Asm.loadk(1, 1), Asm.add(0, 0, 1), Asm.defer(0), Asm.defer(0), Asm.defer(0),
                Asm.defer(0), Asm.call(2, 0, 0));
        x.run(6 * 6 + 5);
        CHECK.due("six full frames", x.getPendingCleanups(0), 4 * 21);
        CHECK.due("getDepth(0)", x.getDepth(0), 6);
        CHECK.due("still running", x.getState(), StackfulCoro.ST_RUNNING);
        CHECK.due("the seventh frame", x.run(1000), 1);
        CHECK.due("all performed", x.getLogCount(), 24);
        for (int i = 0; i < 24; i++) {
            CHECK.due("getLog(" + i + ")", x.getLog(i), 6 - i / 4);
        }
    }

    private static void tagsOfAnyValue() {
        CHECK.sentence("Otherwise tag r[a] is added to its list.");
        for (int a : new int[] {0, 7}) {
            for (int tag : new int[] {MIN, -1, 0, 1, MAX}) {
                StackfulCoro x = Asm.started(1, 1, Asm.loadk(a, tag), Asm.defer(a), Asm.loadk(a, 3), Asm.ret(a));
                x.run(3);
                CHECK.due("tag " + tag + " is pending, whatever its register holds now", x.getPendingCleanups(0), tag);
                x.run(1);
                CHECK.log("tag " + tag, x, tag);
            }
        }
    }

    private static void error() {
        CHECK.sentence("ERROR: r[a] is raised.");
        for (int a : new int[] {0, 7}) {
            for (int e : new int[] {MIN, -9, -8, -1, 0, 1, MAX}) {
                StackfulCoro x = Asm.started(1, 1, Asm.loadk(a, e), Asm.error(a));
                CHECK.due("run", x.run(1000), 2);
                CHECK.ended("ERROR " + e, x, StackfulCoro.ST_FAILED, e);
                StackfulCoro y = Asm.started(1, 1, Asm.create(1, 3), Asm.resume(2, 1, 0), Asm.jmp(2), Asm.loadk(a, e), Asm.error(a));
                y.run(4);
                CHECK.regs("ERROR " + e + " in a coroutine", y, 0, 0, 1, e, 0, 0, 0, 0, 0);
                CHECK.due("main goes on", y.getState(), StackfulCoro.ST_RUNNING);
            }
        }
    }
}
