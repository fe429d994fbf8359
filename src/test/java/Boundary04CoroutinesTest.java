/** Promise 4, sentence by sentence: CREATE, RESUME, WRESUME and YIELD, taken and failing. */
public final class Boundary04CoroutinesTest {
    private static final Check CHECK = new Check();
    private static final int MIN = Integer.MIN_VALUE;
    private static final int MAX = Integer.MAX_VALUE;

    public static void main(String[] args) {
        createWithAllLive();
        createWithAllSuspended();
        roomByEveryDeath();
        roomOfAnyDead();
        nextHandle();
        createdHasNoFrames();
        createdBody();
        createdHandleInRegister();
        resumeOfDead();
        resumeOfActive();
        failureIsCompletedAtOnce();
        resumerGoesOnAfterIt();
        resumedBecomesCurrent();
        resumerUntilItStops();
        firstFrameOfCoroutine();
        firstFrameIsClean();
        yieldGetsTheValue();
        eachYieldGetsItsValue();
        yieldInMain();
        yieldAfterErrors();
        yieldKeepsFrames();
        yieldDelivers();
        yieldContinues();
        CHECK.end();
    }

    // Each thread makes and resumes the next one, so that all but the last are NORMAL and the last is RUNNING.
    private static void createWithAllLive() {
        CHECK.sentence("CREATE: if maxCo coroutines are live, ERR_TOO_MANY is raised.");
        for (int maxCo = 1; maxCo <= 4; maxCo++) {
            StackfulCoro x = Asm.started(maxCo, 1, Asm.create(1, 0), Asm.resume(2, 1, 0), Asm.jmp(2));
            x.run(2 * maxCo);
            CHECK.due("maxCo " + maxCo + ": currentCo()", x.currentCo(), maxCo);
            CHECK.due("maxCo " + maxCo + ": getLiveCount()", x.getLiveCount(), maxCo);
            CHECK.due("maxCo " + maxCo + ": one more", x.run(1), 1);
            CHECK.due("maxCo " + maxCo + ": currentCo()", x.currentCo(), maxCo - 1);
            CHECK.due("maxCo " + maxCo + ": coStatus", x.coStatus(maxCo), StackfulCoro.CO_DEAD);
            CHECK.due("maxCo " + maxCo + ": getLiveCount()", x.getLiveCount(), maxCo - 1);
            CHECK.due("maxCo " + maxCo + ": getLastHandle()", x.getLastHandle(), maxCo);
            CHECK.regs("maxCo " + maxCo, x, maxCo - 1, 0, maxCo, StackfulCoro.ERR_TOO_MANY, 0, 0, 0, 0, 0);
        }
    }

    // A coroutine that was created only, and one that has yielded, are live as well.
    private static void createWithAllSuspended() {
        for (int maxCo = 1; maxCo <= 4; maxCo++) {
            for (int started = 0; started <= maxCo; started++) {
                StackfulCoro x = new StackfulCoro(maxCo, 1);
                for (int i = 0; i < maxCo; i++) {
                    x.emit(StackfulCoro.OP_CREATE, 1, 63, 0);
                    x.emit(i < started ? StackfulCoro.OP_RESUME : StackfulCoro.OP_STATUS, 2, 1, 0);
                }
                int create = x.getCodeLength();
                x.emit(StackfulCoro.OP_CREATE, 1, 0, 0);
                while (x.getCodeLength() < 64) {
                    x.emit(StackfulCoro.OP_YIELD, 0, 0, 0);
                }
                x.start(0, 0);
                x.run(create + started);
                String what = "maxCo " + maxCo + ", " + started + " of them started";
                CHECK.due(what + ": getLiveCount()", x.getLiveCount(), maxCo);
                CHECK.ended(what + ": all made", x, StackfulCoro.ST_RUNNING, 0);
                x.run(1);
                CHECK.ended(what + ": one more", x, StackfulCoro.ST_FAILED, StackfulCoro.ERR_TOO_MANY);
                CHECK.due(what + ": getLiveCount()", x.getLiveCount(), maxCo);
                CHECK.due(what + ": getLastHandle()", x.getLastHandle(), maxCo);
            }
        }
    }

    private static void roomByEveryDeath() {
        int[][] deaths = {Asm.ret(0), Asm.error(0), Asm.yieldTo(0, 0), Asm.jmp(63)};
        for (int[] body : deaths) {
            StackfulCoro x = Asm.started(1, 1, Asm.create(1, 5), Asm.resume(2, 1, 0), Asm.close(2, 1), Asm.create(1, 5), Asm.create(1, 5),
                    body);
            x.run(body[0] == StackfulCoro.OP_JMP ? 6 : 5);
            CHECK.due("room after a death by op " + body[0], x.coStatus(2), StackfulCoro.CO_SUSPENDED);
            CHECK.due("getLiveCount()", x.getLiveCount(), 1);
            x.run(1);
            CHECK.ended("and for no more", x, StackfulCoro.ST_FAILED, StackfulCoro.ERR_TOO_MANY);
        }
    }

    // Each set of closed handles, and each thread that is left as the maker of the next ones.
    private static void roomOfAnyDead() {
        for (int maxCo = 1; maxCo <= 4; maxCo++) {
            for (int closed = 0; closed < 1 << maxCo; closed++) {
                for (int maker = 0; maker <= maxCo; maker++) {
                    if (maker == 0 || !isIn(closed, maker)) {
                        takenAgain(maxCo, closed, maker);
                    }
                }
            }
        }
    }

    private static boolean isIn(int set, int h) {
        return (set >> h - 1 & 1) == 1;
    }

    // The maker stands at 62, where it makes one after another until there is no room; main waits where it resumed it.
    private static StackfulCoro making(int maxCo, int closed, int maker) {
        StackfulCoro x = new StackfulCoro(maxCo, 1);
        for (int h = 1; h <= maxCo; h++) {
            Asm.emit(x, Asm.create(1, 62));
        }
        for (int h = 1; h <= maxCo; h++) {
            if (isIn(closed, h)) {
                Asm.emit(x, Asm.loadk(7, h));
                Asm.emit(x, Asm.close(6, 7));
            }
        }
        Asm.emit(x, Asm.loadk(7, maker));
        Asm.emit(x, maker == 0 ? Asm.jmp(62) : Asm.resume(5, 7, 0));
        int steps = x.getCodeLength();
        while (x.getCodeLength() < 62) {
            Asm.emit(x, Asm.jmp(x.getCodeLength()));
        }
        Asm.emit(x, Asm.create(1, 62));
        Asm.emit(x, Asm.jmp(62));
        x.start(0, 0);
        x.run(steps);
        return x;
    }

    private static void takenAgain(int maxCo, int closed, int maker) {
        StackfulCoro x = making(maxCo, closed, maker);
        int dead = Integer.bitCount(closed);
        String what = "maxCo " + maxCo + ", closed " + Integer.toBinaryString(closed) + ", maker " + maker;
        CHECK.due(what + ": getLiveCount()", x.getLiveCount(), maxCo - dead);
        for (int made = 1; made <= dead; made++) {
            x.run(1);
            CHECK.due(what + ": getReg(" + maker + ", 1)", x.getReg(maker, 1), maxCo + made);
            CHECK.due(what + ": getLiveCount()", x.getLiveCount(), maxCo - dead + made);
            x.run(1);
        }
        CHECK.due(what + ": currentCo()", x.currentCo(), maker);
        for (int h = 1; h <= maxCo + dead; h++) {
            int alive = h == maker ? StackfulCoro.CO_RUNNING : StackfulCoro.CO_SUSPENDED;
            CHECK.due(what + ": coStatus(" + h + ")", x.coStatus(h), isIn(closed, h) ? StackfulCoro.CO_DEAD : alive);
        }
        x.run(1);
        CHECK.due(what + ": getLastHandle() after one too many", x.getLastHandle(), maxCo + dead);
        if (maker == 0) {
            CHECK.ended(what, x, StackfulCoro.ST_FAILED, StackfulCoro.ERR_TOO_MANY);
        } else {
            CHECK.due(what + ": getReg(0, 5)", x.getReg(0, 5), StackfulCoro.ERR_TOO_MANY);
            CHECK.due(what + ": getLiveCount()", x.getLiveCount(), maxCo - 1);
        }
    }

    // Handle 1 asks for one too many and dies of it; the handle that it did not get is the next one given.
    private static void nextHandle() {
        CHECK.sentence("Otherwise a new coroutine is made with the next handle.");
        StackfulCoro x = Asm.started(2, 1, Asm.create(1, 6), Asm.resume(2, 1, 0), Asm.out(2), Asm.create(1, 5), Asm.out(1), Asm.ret(1),
                Asm.create(1, 5), Asm.out(1), Asm.create(1, 5));
        x.run(1000);
        CHECK.log("a refused CREATE takes no handle", x, 2, StackfulCoro.ERR_TOO_MANY, 3);
        CHECK.due("getLastHandle()", x.getLastHandle(), 3);
        StackfulCoro y = Asm.started(1, 1, Asm.create(1, 3), Asm.close(2, 1), Asm.jmp(0), Asm.ret(0));
        for (int h = 1; h <= 300; h++) {
            y.run(1);
            CHECK.due("handle " + h, y.getReg(0, 1), h);
            CHECK.due("getLastHandle()", y.getLastHandle(), h);
            y.run(2);
        }
    }

    private static void createdHasNoFrames() {
        CHECK.sentence("It is SUSPENDED, has no frames and has body address b.");
        StackfulCoro x = Asm.started(1, 2, Asm.loadk(7, 9), Asm.create(1, 5), Asm.resume(2, 1, 7), Asm.close(2, 1), Asm.create(1, 5),
                Asm.defer(0), Asm.call(1, 7, 0), Asm.defer(0), Asm.yieldTo(0, 0));
        x.run(2);
        newCoroutine("the first in its room", x, 1);
        x.run(5);
        CHECK.due("it has yielded", x.getPendingCleanups(1), 18);
        x.run(2);
        newCoroutine("the second in the same room", x, 2);
    }

    private static void newCoroutine(String what, StackfulCoro x, int h) {
        CHECK.due(what + ": coStatus", x.coStatus(h), StackfulCoro.CO_SUSPENDED);
        CHECK.due(what + ": getDepth", x.getDepth(h), 0);
        CHECK.due(what + ": getPendingCleanups", x.getPendingCleanups(h), 0);
        CHECK.regs(what, x, h, 0, 0, 0, 0, 0, 0, 0, 0);
        CHECK.due(what + ": currentCo()", x.currentCo(), 0);
    }

    private static void createdBody() {
        for (int body = 0; body < 64; body++) {
            if (body < 30 || body > 31) {
                StackfulCoro x = new StackfulCoro(1, 1);
                for (int i = 0; i < 64; i++) {
                    Asm.emit(x, i == 30 ? Asm.create(1, body) : i == 31 ? Asm.resume(2, 1, 0) : Asm.loadk(7, i));
                }
                x.start(30, 0);
                x.run(3);
                CHECK.due("the first instruction of the body at " + body, x.getReg(1, 7), body);
            }
        }
    }

    private static void createdHandleInRegister() {
        CHECK.sentence("Then r[a] = its handle.");
        for (int a = 0; a < 8; a++) {
            StackfulCoro x = new StackfulCoro(1, 1);
            for (int r = 0; r < 8; r++) {
                x.emit(StackfulCoro.OP_LOADK, r, 100 + r, 0);
            }
            x.emit(StackfulCoro.OP_CREATE, a, 0, 0);
            x.start(0, 0);
            x.run(9);
            for (int r = 0; r < 8; r++) {
                CHECK.due("CREATE into r" + a + ": r" + r, x.getReg(0, r), r == a ? 1 : 100 + r);
            }
        }
    }

    // Handles: 1 is new, 2 has returned, 3 has failed, 4 was closed. The last instruction has h in r0 and flag in r7.
    private static StackfulCoro afterDeaths(int h, int flag, int[] last) {
        StackfulCoro x = Asm.load(4, 2, Asm.create(1, 11), Asm.create(1, 11), Asm.create(2, 12), Asm.create(3, 11),
                Asm.resume(4, 1, 0), Asm.resume(4, 2, 0), Asm.close(4, 3), Asm.defer(3), Asm.loadk(7, flag), last, Asm.jmp(10),
                Asm.ret(0), Asm.error(0));
        x.start(0, h);
        x.run(11);
        return x;
    }

    // A RESUME that fails does to the whole machine what a LOADK of the error does, with a 0 in the next register.
    private static void resumeOfDead() {
        CHECK.sentence("If h is DEAD, this is failure ERR_DEAD.");
        for (int h : new int[] {MIN, MIN + 1, -1, 2, 3, 4, 5, 6, MAX}) {
            StackfulCoro x = afterDeaths(h, 99, Asm.resume(6, 0, 0));
            CHECK.due("r7 before", x.getReg(0, 7), 99);
            CHECK.due("RESUME of " + h, x.run(1), 1);
            CHECK.due("r6", x.getReg(0, 6), StackfulCoro.ERR_DEAD);
            CHECK.due("r7", x.getReg(0, 7), 0);
            StackfulCoro twin = afterDeaths(h, 0, Asm.loadk(6, StackfulCoro.ERR_DEAD));
            twin.run(1);
            CHECK.unchanged("RESUME of " + h, x, Snapshot.of(twin));
            StackfulCoro y = afterDeaths(h, 99, Asm.wresume(6, 0, 0));
            CHECK.due("WRESUME of " + h, y.run(1), 1);
            CHECK.ended("WRESUME of " + h, y, StackfulCoro.ST_FAILED, StackfulCoro.ERR_DEAD);
            CHECK.log("WRESUME of " + h, y, 4);
            CHECK.due("handle 1 stays", y.coStatus(1), StackfulCoro.CO_SUSPENDED);
        }
        StackfulCoro inside = afterDeaths(1, 99, Asm.resume(6, 0, 0));
        inside.run(1);
        CHECK.due("the suspended handle 1 is entered", inside.currentCo(), 1);
        CHECK.due("and main's flag waits", inside.getReg(0, 7), 99);
    }

    // Main resumes 1, 1 resumes 2, and 2 does the instruction with the handle that came down in r0.
    private static StackfulCoro nested(int h, int flag, int[] last) {
        StackfulCoro x = Asm.load(2, 1, Asm.create(1, 3), Asm.wresume(2, 1, 0), Asm.ret(2),
                Asm.create(1, 6), Asm.wresume(2, 1, 0), Asm.ret(2),
                Asm.loadk(7, flag), last, Asm.ret(6));
        x.start(0, h);
        x.run(5);
        return x;
    }

    private static void resumeOfActive() {
        CHECK.sentence("If h is RUNNING or NORMAL, this is failure ERR_NOT_SUSPENDED. This covers resuming the current thread itself or main.");
        for (int h = 0; h <= 2; h++) {
            StackfulCoro x = nested(h, 99, Asm.resume(6, 0, 0));
            CHECK.due("RESUME of " + h, x.run(1), 1);
            CHECK.due("r6", x.getReg(2, 6), StackfulCoro.ERR_NOT_SUSPENDED);
            CHECK.due("r7", x.getReg(2, 7), 0);
            StackfulCoro twin = nested(h, 0, Asm.loadk(6, StackfulCoro.ERR_NOT_SUSPENDED));
            twin.run(1);
            CHECK.sameFuture("RESUME of " + h, x, twin);
            CHECK.ended("RESUME of " + h, x, StackfulCoro.ST_DONE, StackfulCoro.ERR_NOT_SUSPENDED);
            StackfulCoro y = nested(h, 99, Asm.wresume(6, 0, 0));
            CHECK.due("WRESUME of " + h, y.run(1), 1);
            CHECK.ended("WRESUME of " + h, y, StackfulCoro.ST_FAILED, StackfulCoro.ERR_NOT_SUSPENDED);
        }
        StackfulCoro main = Asm.started(1, 1, Asm.resume(6, 0, 0), Asm.ret(6));
        CHECK.due("main resumes itself", main.run(1000), 2);
        CHECK.ended("main resumes itself", main, StackfulCoro.ST_DONE, StackfulCoro.ERR_NOT_SUSPENDED);
        StackfulCoro other = nested(3, 99, Asm.resume(6, 0, 0));
        other.run(1);
        CHECK.due("handle 3 was never given out", other.getReg(2, 6), StackfulCoro.ERR_DEAD);
    }

    private static void failureIsCompletedAtOnce() {
        CHECK.sentence("A failure is completed at once in the current thread, as defined under COMPLETION.");
        for (int address = 0; address < 64; address++) {
            StackfulCoro x = new StackfulCoro(1, 1);
            for (int i = 0; i < 64; i++) {
                Asm.emit(x, i == address ? Asm.resume(2, 0, 0) : Asm.loadk(7, i));
            }
            x.start(address, -1);
            CHECK.due("RESUME at " + address, x.run(1), 1);
            CHECK.regs("RESUME at " + address, x, 0, -1, 0, StackfulCoro.ERR_DEAD, 0, 0, 0, 0, 0);
            x.run(1);
            if (address < 63) {
                CHECK.due("the instruction after it", x.getReg(0, 7), address + 1);
            } else {
                CHECK.ended("after it", x, StackfulCoro.ST_FAILED, StackfulCoro.ERR_BAD_PC);
            }
        }
    }

    private static void resumerGoesOnAfterIt() {
        CHECK.sentence("RESUME and WRESUME: the pc becomes pc+1.");
        for (int address = 2; address < 64; address++) {
            for (int[] resume : new int[][] {Asm.resume(2, 1, 1), Asm.wresume(2, 1, 1)}) {
                StackfulCoro x = new StackfulCoro(1, 1);
                for (int i = 0; i < 64; i++) {
                    Asm.emit(x, i == 0 ? Asm.ret(0) : i == address - 1 ? Asm.create(1, 0) : i == address ? resume : Asm.loadk(7, i));
                }
                x.start(address - 1, 0);
                x.run(3);
                CHECK.due("answered at " + address, x.getReg(0, 2), 1);
                x.run(1);
                if (address < 63) {
                    CHECK.due("the instruction after the one at " + address, x.getReg(0, 7), address + 1);
                } else {
                    CHECK.ended("after the one at 63", x, StackfulCoro.ST_FAILED, StackfulCoro.ERR_BAD_PC);
                }
            }
        }
    }

    private static void resumedBecomesCurrent() {
        CHECK.sentence("The current thread becomes NORMAL and is h's resumer until h next yields, returns or fails, "
                + "and h becomes RUNNING and current.");
        for (int[] resume : new int[][] {Asm.resume(2, 1, 0), Asm.wresume(2, 1, 0)}) {
            StackfulCoro x = Asm.started(4, 1, Asm.create(1, 0), resume);
            for (int h = 0; h < 4; h++) {
                CHECK.due("currentCo()", x.currentCo(), h);
                CHECK.due("coStatus(" + h + ")", x.coStatus(h), StackfulCoro.CO_RUNNING);
                x.run(1);
                CHECK.due("coStatus(" + (h + 1) + ")", x.coStatus(h + 1), StackfulCoro.CO_SUSPENDED);
                x.run(1);
                CHECK.due("coStatus(" + h + ")", x.coStatus(h), StackfulCoro.CO_NORMAL);
            }
            CHECK.due("currentCo()", x.currentCo(), 4);
            CHECK.due("getLiveCount()", x.getLiveCount(), 4);
        }
    }

    // Handle 1 yields to main, and is resumed the second time by handle 2: from then on 2 is its resumer.
    private static void resumerUntilItStops() {
        for (int[] stop : new int[][] {Asm.yieldTo(0, 0), Asm.ret(0), Asm.error(0)}) {
            StackfulCoro x = Asm.started(2, 1, Asm.create(1, 5), Asm.create(2, 7), Asm.resume(3, 1, 0), Asm.resume(5, 2, 1), Asm.ret(5),
                    Asm.yieldTo(0, 0), stop,
                    Asm.loadk(7, 40), Asm.resume(3, 0, 7), Asm.resume(5, 0, 7), Asm.ret(5));
            x.run(7);
            CHECK.due("handle 2 has resumed 1", x.currentCo(), 1);
            CHECK.due("coStatus(2)", x.coStatus(2), StackfulCoro.CO_NORMAL);
            CHECK.due("coStatus(0)", x.coStatus(0), StackfulCoro.CO_NORMAL);
            x.run(1);
            CHECK.due("back in handle 2 after op " + stop[0], x.currentCo(), 2);
            CHECK.due("coStatus(2)", x.coStatus(2), StackfulCoro.CO_RUNNING);
            CHECK.due("getReg(2, 3)", x.getReg(2, 3), 40);
            CHECK.due("getReg(2, 4)", x.getReg(2, 4), stop[0] == StackfulCoro.OP_ERROR ? 0 : 1);
            CHECK.due("main has nothing of it", x.getReg(0, 5), 0);
        }
    }

    private static void firstFrameOfCoroutine() {
        CHECK.sentence("If h has no frames, one is pushed with r0 = r[c] of the resumer, r1..r7=0, pc = h's body address and no cleanups.");
        for (int c : new int[] {0, 2, 7}) {
            for (int arg : new int[] {MIN, -1, 0, 1, MAX}) {
                for (int[] resume : new int[][] {Asm.resume(3, 1, c), Asm.wresume(3, 1, c)}) {
                    StackfulCoro x = Asm.started(1, 1, Asm.loadk(c, arg), Asm.defer(c), Asm.create(1, 4), resume, Asm.running(7));
                    x.run(4);
                    CHECK.regs("resumed with r" + c, x, 1, arg, 0, 0, 0, 0, 0, 0, 0);
                    CHECK.due("getDepth(1)", x.getDepth(1), 1);
                    CHECK.due("getPendingCleanups(1)", x.getPendingCleanups(1), 0);
                    CHECK.due("getPendingCleanups(0)", x.getPendingCleanups(0), arg);
                    x.run(1);
                    CHECK.regs("its first instruction", x, 1, arg, 0, 0, 0, 0, 0, 0, 1);
                }
            }
        }
        StackfulCoro own = Asm.started(1, 1, Asm.create(1, 0), Asm.resume(1, 1, 1));
        own.run(2);
        CHECK.regs("the handle itself as argument", own, 1, 1, 0, 0, 0, 0, 0, 0, 0);
    }

    // The room was used by a coroutine that filled its registers and cleanups, and was closed in a second frame.
    private static void firstFrameIsClean() {
        StackfulCoro x = Asm.started(1, 2, Asm.create(1, 5), Asm.resume(2, 1, 0), Asm.close(2, 1), Asm.create(1, 5), Asm.resume(4, 1, 0),
                Asm.loadk(0, 10), Asm.loadk(1, 11), Asm.loadk(2, 12), Asm.loadk(3, 13), Asm.loadk(4, 14), Asm.loadk(5, 15),
                Asm.loadk(6, 16), Asm.loadk(7, 17), Asm.defer(0), Asm.defer(1), Asm.defer(2), Asm.defer(3), Asm.call(1, 18, 0),
                Asm.yieldTo(0, 0));
        x.run(16);
        CHECK.due("it has yielded", x.coStatus(1), StackfulCoro.CO_SUSPENDED);
        x.run(3);
        CHECK.due("currentCo()", x.currentCo(), 2);
        CHECK.regs("the next in its room", x, 2, 0, 0, 0, 0, 0, 0, 0, 0);
        CHECK.due("getDepth(2)", x.getDepth(2), 1);
        CHECK.due("getPendingCleanups(2)", x.getPendingCleanups(2), 0);
        x.run(12);
        CHECK.due("room for four cleanups", x.getPendingCleanups(2), 46);
    }

    private static void yieldGetsTheValue() {
        CHECK.sentence("Otherwise the YIELD that stopped h gets r[c] of the resumer.");
        for (int c : new int[] {0, 7}) {
            StackfulCoro x = Asm.started(1, 3, Asm.create(1, 7), Asm.resume(2, 1, 0), Asm.loadk(c, 51), Asm.resume(2, 1, c),
                    Asm.loadk(c, 52), Asm.wresume(2, 1, c), Asm.jmp(6),
                    Asm.yieldTo(1, 0), Asm.call(5, 9, 0), Asm.yieldTo(1, 7), Asm.ret(7));
            x.run(3);
            CHECK.due("stopped in the first frame", x.getDepth(1), 1);
            x.run(2);
            CHECK.regs("the first YIELD", x, 1, 51, 0, 0, 0, 0, 0, 0, 0);
            CHECK.due("no frame is pushed", x.getDepth(1), 1);
            x.run(2);
            CHECK.due("stopped in the second frame", x.getDepth(1), 2);
            x.run(2);
            CHECK.regs("the second YIELD", x, 1, 51, 0, 0, 0, 0, 0, 0, 52);
            CHECK.due("no frame is pushed", x.getDepth(1), 2);
            x.run(1);
            CHECK.regs("back in the first frame", x, 1, 51, 0, 0, 0, 0, 52, 0, 0);
        }
    }

    // Four stand at their YIELDs, the odd ones in a second frame, and are resumed in every order, some of them again.
    private static void eachYieldGetsItsValue() {
        for (int order = 0; order < 256; order++) {
            StackfulCoro x = Asm.load(4, 2, Asm.create(1, 14), Asm.resume(6, 1, 0), Asm.create(2, 13), Asm.resume(6, 2, 0),
                    Asm.create(3, 14), Asm.resume(6, 3, 0), Asm.create(4, 13), Asm.resume(6, 4, 0),
                    Asm.resume(6, turn(order, 0), 0), Asm.resume(6, turn(order, 1), 1), Asm.resume(6, turn(order, 2), 2),
                    Asm.resume(6, turn(order, 3), 3), Asm.jmp(12),
                    Asm.jmp(15), Asm.call(1, 15, 0), Asm.yieldTo(0, 7), Asm.jmp(15));
            x.start(0, 500);
            x.run(8 + 4 * 2);
            int[] got = new int[5];
            for (int k = 0; k < 4; k++) {
                x.run(1);
                got[turn(order, k)] = k == 0 ? 500 : k;
                for (int h = 1; h <= 4; h++) {
                    CHECK.due("order " + order + ", resume " + k + ": getReg(" + h + ", 7)", x.getReg(h, 7), got[h]);
                }
                CHECK.due("order " + order + ", resume " + k + ": currentCo()", x.currentCo(), turn(order, k));
                x.run(2);
            }
        }
    }

    private static int turn(int order, int k) {
        return 1 + (order >> 2 * k & 3);
    }

    private static void yieldInMain() {
        CHECK.sentence("YIELD: if the thread is main, ERR_YIELD_MAIN is raised.");
        for (int depth = 1; depth <= 6; depth++) {
            StackfulCoro x = new StackfulCoro(1, 6);
            x.emit(StackfulCoro.OP_CREATE, 1, 0, 0);
            for (int i = 1; i < depth; i++) {
                x.emit(StackfulCoro.OP_DEFER, 0, 0, 0);
                x.emit(StackfulCoro.OP_CALL, 1, x.getCodeLength() + 1, 0);
            }
            x.emit(StackfulCoro.OP_YIELD, 0, 0, 0);
            x.start(0, 8);
            x.run(2 * depth - 1);
            CHECK.due("getDepth(0)", x.getDepth(0), depth);
            CHECK.due("still running", x.getState(), StackfulCoro.ST_RUNNING);
            CHECK.due("YIELD in frame " + depth, x.run(1000), 1);
            CHECK.ended("YIELD in frame " + depth, x, StackfulCoro.ST_FAILED, StackfulCoro.ERR_YIELD_MAIN);
            CHECK.due("cleanups of main", x.getLogCount(), depth - 1);
            CHECK.due("the coroutine stays", x.coStatus(1), StackfulCoro.CO_SUSPENDED);
        }
        StackfulCoro inside = Asm.ran(1, 1, Asm.create(1, 2), Asm.resume(2, 1, 0), Asm.yieldTo(0, 0));
        CHECK.ended("the same YIELD in handle 1, then in main", inside, StackfulCoro.ST_FAILED, StackfulCoro.ERR_YIELD_MAIN);
        CHECK.due("handle 1 took it", inside.coStatus(1), StackfulCoro.CO_SUSPENDED);
    }

    // Whatever was raised and caught before, and wherever the coroutine lives, its YIELD is no fault.
    private static void yieldAfterErrors() {
        for (int e = -8; e <= 4; e++) {
            StackfulCoro x = Asm.load(4, 1, Asm.create(1, 10), Asm.create(2, 12), Asm.create(3, 12), Asm.create(4, 12), Asm.resume(5, 1, 0),
                    Asm.resume(7, 2, 2), Asm.resume(7, 3, 3), Asm.resume(7, 4, 4), Asm.resume(5, 4, 4), Asm.ret(5),
                    Asm.error(0), Asm.ret(0), Asm.yieldTo(0, 1), Asm.jmp(12));
            x.start(0, e);
            x.run(6);
            CHECK.due("raised and caught", x.getReg(0, 5), e);
            for (int h = 2; h <= 4; h++) {
                CHECK.due("after error " + e + ": run", x.run(2), 2);
                CHECK.due("after error " + e + ": what " + h + " yielded", x.getReg(0, 7), h);
                CHECK.due("after error " + e + ": coStatus(" + h + ")", x.coStatus(h), StackfulCoro.CO_SUSPENDED);
            }
            x.run(1000);
            CHECK.ended("after error " + e, x, StackfulCoro.ST_DONE, 4);
        }
    }

    // It yields in each of its frames; r7 of each frame is its depth, and one tag is pending in each.
    private static void yieldKeepsFrames() {
        CHECK.sentence("Otherwise the pc becomes pc+1 and the coroutine becomes SUSPENDED, keeping all its frames.");
        StackfulCoro x = Asm.started(1, 6, Asm.create(1, 3), Asm.resume(2, 1, 2), Asm.jmp(1),
                Asm.loadk(6, 1), Asm.add(7, 0, 6), Asm.defer(7), Asm.yieldTo(7, 1), Asm.call(5, 3, 7), Asm.ret(5));
        x.run(1);
        for (int depth = 1; depth <= 6; depth++) {
            x.run(depth == 1 ? 5 : 7);
            CHECK.due("coStatus(1)", x.coStatus(1), StackfulCoro.CO_SUSPENDED);
            CHECK.due("currentCo()", x.currentCo(), 0);
            CHECK.due("getDepth(1)", x.getDepth(1), depth);
            CHECK.due("getReg(1, 7)", x.getReg(1, 7), depth);
            CHECK.due("getPendingCleanups(1)", x.getPendingCleanups(1), depth * (depth + 1) / 2);
            CHECK.log("no cleanup performed", x);
        }
        x.run(3);
        CHECK.log("the CALL after the sixth YIELD, one frame too many", x, 6, 5, 4, 3, 2, 1);
    }

    private static void yieldDelivers() {
        CHECK.sentence("r[a] is delivered with success to its resumer.");
        for (int a : new int[] {0, 7}) {
            for (int v : new int[] {MIN, -1, 0, 1, MAX}) {
                StackfulCoro x = Asm.started(1, 1, Asm.create(1, 3), Asm.resume(2, 1, 0), Asm.jmp(2), Asm.loadk(a, v), Asm.yieldTo(a, 1));
                x.run(4);
                CHECK.regs("yielded " + v, x, 0, 0, 1, v, 1, 0, 0, 0, 0);
                CHECK.due("its own register stays", x.getReg(1, a), v);
            }
        }
    }

    private static void yieldContinues() {
        CHECK.sentence("When the coroutine is next resumed with value w, r[b]=w in its top frame, and it continues.");
        for (int b : new int[] {0, 1, 7}) {
            for (int w : new int[] {MIN, -1, 0, 1, MAX}) {
                StackfulCoro x = Asm.started(1, 1, Asm.create(1, 4), Asm.resume(2, 1, 0), Asm.loadk(6, w), Asm.resume(2, 1, 6),
                        Asm.loadk(b, 33), Asm.yieldTo(b, b), Asm.running(5));
                x.run(4);
                CHECK.due("until then the register waits", x.getReg(1, b), 33);
                x.run(2);
                for (int r = 0; r < 8; r++) {
                    CHECK.due("resumed with " + w + ": r" + r, x.getReg(1, r), r == b ? w : 0);
                }
                x.run(1);
                CHECK.due("the instruction after the YIELD", x.getReg(1, 5), 1);
            }
        }
    }
}
