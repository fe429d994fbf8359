/** Promise 4, sentence by sentence: CLOSE, COMPLETION, cleanups, unwinding, raising, and the full log. */
public final class Boundary04EndsTest {
    private static final Check CHECK = new Check();
    private static final int MIN = Integer.MIN_VALUE;
    private static final int MAX = Integer.MAX_VALUE;

    public static void main(String[] args) {
        closeOfActive();
        closeOfDead();
        closeOfSuspended();
        closeOfEach();
        resumerRunsAgain();
        successWithResume();
        failureWithResume();
        successWithWresume();
        failureWithWresume();
        performing();
        unwinding();
        unwindingSuspended();
        unwindingNoFrames();
        raiseUnwindsFirst();
        raiseInMain();
        raiseInCoroutine();
        raisesInOneStep();
        out();
        logHoldsSixtyFour();
        sixtyFifthIsDropped();
        cleanupsAtTheLogsEnd();
        CHECK.end();
    }

    // Main resumes 1, 1 resumes 2, and 2 closes the handle that came down in r0; each thread has a tag pending.
    private static StackfulCoro closing(int h) {
        StackfulCoro x = Asm.load(2, 1, Asm.create(1, 4), Asm.defer(1), Asm.resume(2, 1, 0), Asm.ret(3),
                Asm.create(1, 8), Asm.defer(1), Asm.resume(2, 1, 0), Asm.ret(2),
                Asm.loadk(6, 77), Asm.defer(6), Asm.close(6, 0), Asm.ret(6));
        x.start(0, h);
        x.run(8);
        return x;
    }

    private static void closeOfActive() {
        CHECK.sentence("If h is RUNNING or NORMAL, ERR_CLOSE_ACTIVE is raised.");
        for (int h = 0; h <= 2; h++) {
            StackfulCoro x = closing(h);
            CHECK.due("CLOSE of " + h, x.run(1), 1);
            CHECK.due("coStatus(0)", x.coStatus(0), StackfulCoro.CO_NORMAL);
            CHECK.due("coStatus(1)", x.coStatus(1), StackfulCoro.CO_RUNNING);
            CHECK.due("coStatus(2)", x.coStatus(2), StackfulCoro.CO_DEAD);
            CHECK.regs("the resumer", x, 1, h, 2, StackfulCoro.ERR_CLOSE_ACTIVE, 0, 0, 0, 0, 0);
            CHECK.log("only the closer is unwound", x, 77);
            CHECK.due("getPendingCleanups(0)", x.getPendingCleanups(0), 1);
            CHECK.due("getPendingCleanups(1)", x.getPendingCleanups(1), 2);
        }
        StackfulCoro main = Asm.started(1, 1, Asm.defer(1), Asm.close(6, 0));
        CHECK.due("main closes itself", main.run(1000), 2);
        CHECK.ended("main closes itself", main, StackfulCoro.ST_FAILED, StackfulCoro.ERR_CLOSE_ACTIVE);
    }

    private static void closeOfDead() {
        CHECK.sentence("If h is DEAD, r[a]=0.");
        for (int h : new int[] {MIN, -1, 3, 4, MAX}) {
            StackfulCoro x = closing(h);
            Snapshot before = Snapshot.of(x);
            CHECK.due("r6 before", x.getReg(2, 6), 77);
            CHECK.due("CLOSE of " + h, x.run(1), 1);
            CHECK.due("r6", x.getReg(2, 6), 0);
            CHECK.due("nothing else", Snapshot.of(x).difference(before).startsWith("getReg(2, 6)"), true);
            CHECK.log("no cleanup", x);
        }
        for (int[] death : new int[][] {Asm.ret(0), Asm.error(0), Asm.jmp(63)}) {
            StackfulCoro x = Asm.ran(1, 1, Asm.create(1, 6), Asm.resume(2, 1, 0), Asm.loadk(7, 9), Asm.close(7, 1), Asm.out(7), Asm.ret(1),
                    death);
            CHECK.log("CLOSE after op " + death[0], x, 0);
            CHECK.ended("CLOSE after op " + death[0], x, StackfulCoro.ST_DONE, 1);
        }
    }

    private static void closeOfSuspended() {
        CHECK.sentence("If h is SUSPENDED, h is unwound, h becomes DEAD, and r[a]=1.");
        for (int a : new int[] {0, 1, 7}) {
            StackfulCoro x = Asm.started(2, 1, Asm.create(1, 5), Asm.create(2, 5), Asm.resume(3, 1, 2), Asm.loadk(5, 55), Asm.close(a, 1),
                    Asm.defer(0), Asm.yieldTo(0, 0));
            x.run(6);
            CHECK.due("suspended", x.coStatus(1), StackfulCoro.CO_SUSPENDED);
            CHECK.due("pending", x.getPendingCleanups(1), 2);
            int[] want = {0, 1, 2, 2, 1, 55, 0, 0};
            CHECK.regs("before", x, 0, want);
            x.run(1);
            want[a] = 1;
            CHECK.regs("after", x, 0, want);
            CHECK.due("coStatus(1)", x.coStatus(1), StackfulCoro.CO_DEAD);
            CHECK.due("getDepth(1)", x.getDepth(1), 0);
            CHECK.due("getPendingCleanups(1)", x.getPendingCleanups(1), 0);
            CHECK.log("unwound", x, 2);
            CHECK.due("main is current", x.currentCo(), 0);
            CHECK.due("coStatus(2)", x.coStatus(2), StackfulCoro.CO_SUSPENDED);
            CHECK.due("getLiveCount()", x.getLiveCount(), 1);
        }
    }

    // Four stand suspended, h with the tags 10h and, in a second frame, 10h + 1; each closes alone, by main or by another.
    private static void closeOfEach() {
        for (int h = 1; h <= 4; h++) {
            for (int closer = 0; closer <= 4; closer++) {
                if (closer != h) {
                    closeOne(h, closer);
                }
            }
        }
    }

    private static void closeOne(int h, int closer) {
        StackfulCoro x = Asm.started(4, 2, Asm.create(1, 18), Asm.loadk(3, 10), Asm.resume(5, 1, 3), Asm.create(1, 18), Asm.loadk(3, 20),
                Asm.resume(5, 1, 3), Asm.create(1, 18), Asm.loadk(3, 30), Asm.resume(5, 1, 3), Asm.create(1, 18), Asm.loadk(3, 40),
                Asm.resume(5, 1, 3), Asm.loadk(5, h), Asm.loadk(0, closer), closer == 0 ? Asm.jmp(16) : Asm.resume(6, 0, 5), Asm.jmp(15),
                Asm.close(4, 5), Asm.jmp(17),
                Asm.defer(0), Asm.call(7, 20, 0), Asm.loadk(1, 1), Asm.add(2, 0, 1), Asm.defer(2), Asm.yieldTo(2, 5), Asm.jmp(16));
        x.run(4 * 9 + (closer == 0 ? 3 : 4));
        String what = "CLOSE of " + h + " by " + closer;
        CHECK.due(what + ": getLiveCount() before", x.getLiveCount(), 4);
        CHECK.log(what + ": before", x);
        x.run(1);
        CHECK.log(what, x, 10 * h + 1, 10 * h);
        CHECK.due(what + ": r4", x.getReg(closer, 4), 1);
        for (int other = 1; other <= 4; other++) {
            boolean closed = other == h;
            CHECK.due(what + ": getDepth(" + other + ")", x.getDepth(other), closed ? 0 : 2);
            CHECK.due(what + ": getPendingCleanups(" + other + ")", x.getPendingCleanups(other), closed ? 0 : 20 * other + 1);
            CHECK.due(what + ": coStatus(" + other + ") is DEAD", x.coStatus(other) == StackfulCoro.CO_DEAD, closed);
        }
    }

    // Main resumes 1 with the given instruction, and 1 stops in the given way with the value in its r0.
    private static StackfulCoro resumed(int[] resume, int[] stop, int value) {
        StackfulCoro x = new StackfulCoro(1, 1);
        for (int r = 1; r < 8; r++) {
            x.emit(StackfulCoro.OP_LOADK, r, 100 + r, 0);
        }
        x.emit(StackfulCoro.OP_CREATE, 3, 10, 0);
        Asm.emit(x, resume);
        x.emit(StackfulCoro.OP_RUNNING, 4, 0, 0);
        Asm.emit(x, stop);
        x.start(0, value);
        x.run(9);
        return x;
    }

    private static int[] resumerRegs(int value) {
        return new int[] {value, 101, 102, 1, 104, 105, 106, 107};
    }

    private static void resumerRunsAgain() {
        CHECK.sentence("**COMPLETION** happens in the resumer R, which becomes RUNNING and current again.");
        int[][] stops = {Asm.yieldTo(0, 0), Asm.ret(0), Asm.error(0)};
        for (int[] stop : stops) {
            StackfulCoro x = resumed(Asm.resume(5, 3, 0), stop, 6);
            CHECK.due("currentCo()", x.currentCo(), 1);
            CHECK.due("coStatus(0)", x.coStatus(0), StackfulCoro.CO_NORMAL);
            CHECK.regs("the resumer waits", x, 0, resumerRegs(6));
            x.run(1);
            CHECK.due("currentCo()", x.currentCo(), 0);
            CHECK.due("coStatus(0)", x.coStatus(0), StackfulCoro.CO_RUNNING);
            CHECK.due("getDepth(0)", x.getDepth(0), 1);
            x.run(1);
            CHECK.due("the instruction after the RESUME", x.getReg(0, 4), 0);
        }
    }

    private static void completed(int[] resume, int[] stop, int value, int flag) {
        StackfulCoro x = resumed(resume, stop, value);
        x.run(1);
        int[] want = resumerRegs(value);
        want[resume[1]] = value;
        if (resume[0] == StackfulCoro.OP_RESUME) {
            want[(resume[1] + 1) % 8] = flag;
        }
        CHECK.regs("a = " + resume[1] + ", value " + value, x, 0, want);
    }

    private static void successWithResume() {
        CHECK.sentence("success v with RESUME: r[a]=v, then r[(a+1)%8]=1;");
        for (int a = 0; a < 8; a++) {
            for (int v : new int[] {MIN, -1, 0, 1, MAX}) {
                completed(Asm.resume(a, 3, 0), Asm.yieldTo(0, 0), v, 1);
                completed(Asm.resume(a, 3, 0), Asm.ret(0), v, 1);
            }
        }
    }

    private static void failureWithResume() {
        CHECK.sentence("failure e with RESUME: r[a]=e, then r[(a+1)%8]=0;");
        for (int a = 0; a < 8; a++) {
            for (int e : new int[] {MIN, -1, 0, 1, MAX}) {
                completed(Asm.resume(a, 3, 0), Asm.error(0), e, 0);
            }
        }
    }

    private static void successWithWresume() {
        CHECK.sentence("success v with WRESUME: r[a]=v;");
        for (int a = 0; a < 8; a++) {
            for (int v : new int[] {MIN, -1, 0, 1, MAX}) {
                completed(Asm.wresume(a, 3, 0), Asm.yieldTo(0, 0), v, 1);
                completed(Asm.wresume(a, 3, 0), Asm.ret(0), v, 1);
            }
        }
    }

    private static void failureWithWresume() {
        CHECK.sentence("failure e with WRESUME: e is raised in R.");
        for (int a : new int[] {0, 6, 7}) {
            for (int e : new int[] {MIN, -1, 0, 1, MAX}) {
                StackfulCoro x = resumed(Asm.wresume(a, 3, 0), Asm.error(0), e);
                CHECK.ended("before", x, StackfulCoro.ST_RUNNING, 0);
                CHECK.due("run", x.run(1000), 1);
                CHECK.ended("raised in main", x, StackfulCoro.ST_FAILED, e);
            }
        }
    }

    // The list is empty after it was performed: a second RET performs only what the second frame deferred.
    private static void performing() {
        CHECK.sentence("**PERFORMING a frame's cleanups** appends its tags to the log, latest added first, and then empties its list.");
        StackfulCoro x = Asm.started(1, 2, Asm.call(1, 3, 0), Asm.call(1, 11, 0), Asm.ret(0),
                Asm.loadk(1, 1), Asm.defer(1), Asm.loadk(1, 2), Asm.defer(1), Asm.loadk(1, 3), Asm.defer(1), Asm.defer(0), Asm.ret(0),
                Asm.ret(0));
        x.run(8);
        CHECK.due("four are pending", x.getPendingCleanups(0), 6);
        CHECK.log("none performed", x);
        x.run(1);
        CHECK.due("nothing pending", x.getPendingCleanups(0), 0);
        CHECK.log("latest first", x, 0, 3, 2, 1);
        x.run(1000);
        CHECK.log("performed once", x, 0, 3, 2, 1);
        CHECK.ended("and done", x, StackfulCoro.ST_DONE, 0);
    }

    // Frame d of six defers 10d + 1 to 10d + 4; the full stack and full lists are unwound by ERROR.
    private static void unwinding() {
        CHECK.sentence("**UNWINDING a thread** repeats the following while the thread has frames: "
                + "perform the top frame's cleanups, then pop that frame.");
        StackfulCoro x = Asm.load(1, 6, Asm.loadk(1, 1), Asm.loadk(2, 10), Asm.add(0, 0, 2), Asm.move(3, 0),
                Asm.add(3, 3, 1), Asm.defer(3), Asm.add(3, 3, 1), Asm.defer(3), Asm.add(3, 3, 1), Asm.defer(3),
                Asm.add(3, 3, 1), Asm.defer(3), Asm.loadk(4, 60), Asm.lt(5, 0, 4), Asm.jz(5, 17), Asm.call(6, 0, 0), Asm.ret(0),
                Asm.error(0));
        x.start(0, 0);
        x.run(5 * 16 + 15);
        CHECK.due("getDepth(0)", x.getDepth(0), 6);
        CHECK.log("none performed", x);
        CHECK.due("ERROR", x.run(1000), 1);
        CHECK.ended("ERROR", x, StackfulCoro.ST_FAILED, 60);
        CHECK.due("getDepth(0)", x.getDepth(0), 0);
        CHECK.due("getLogCount()", x.getLogCount(), 24);
        for (int i = 0; i < 24; i++) {
            CHECK.due("getLog(" + i + ")", x.getLog(i), 10 * (6 - i / 4) + 4 - i % 4);
        }
    }

    private static void unwindingSuspended() {
        CHECK.sentence("Unwinding a suspended coroutine therefore performs its cleanups from the top frame down, "
                + "latest first within each frame.");
        StackfulCoro x = Asm.started(1, 3, Asm.loadk(7, 90), Asm.defer(7), Asm.create(1, 6), Asm.resume(2, 1, 0), Asm.close(2, 1), Asm.jmp(5),
                Asm.loadk(1, 11), Asm.defer(1), Asm.loadk(1, 12), Asm.defer(1), Asm.call(1, 11, 0),
                Asm.call(1, 12, 0),
                Asm.loadk(1, 31), Asm.defer(1), Asm.loadk(1, 32), Asm.defer(1), Asm.yieldTo(0, 0));
        x.run(15);
        CHECK.due("getDepth(1)", x.getDepth(1), 3);
        CHECK.due("getPendingCleanups(1)", x.getPendingCleanups(1), 86);
        x.run(1);
        CHECK.log("a frame without tags in between", x, 32, 31, 12, 11);
        CHECK.due("main's is pending", x.getPendingCleanups(0), 90);
    }

    private static void unwindingNoFrames() {
        CHECK.sentence("A coroutine with no frames leaves the log unchanged.");
        StackfulCoro x = Asm.started(1, 1, Asm.loadk(4, 5), Asm.out(4), Asm.defer(4), Asm.create(1, 0), Asm.close(2, 1), Asm.jmp(5));
        x.run(4);
        CHECK.due("coStatus(1)", x.coStatus(1), StackfulCoro.CO_SUSPENDED);
        x.run(1);
        CHECK.log("closed", x, 5);
        CHECK.due("r2", x.getReg(0, 2), 1);
        CHECK.due("coStatus(1)", x.coStatus(1), StackfulCoro.CO_DEAD);
        CHECK.due("main's is pending", x.getPendingCleanups(0), 5);
    }

    // The coroutine's tag is logged before anything that main does with the failure, and every error unwinds.
    private static void raiseUnwindsFirst() {
        CHECK.sentence("**RAISE e in thread T** first unwinds T.");
        int[][] faults = {
            Asm.error(0), Asm.call(1, 8, 0), Asm.create(1, 0), Asm.jmp(63), Asm.close(1, 7), Asm.wresume(1, 7, 0), Asm.wresume(1, 6, 0)
        };
        int[] errors = {
            0, StackfulCoro.ERR_STACK, StackfulCoro.ERR_TOO_MANY, StackfulCoro.ERR_BAD_PC, StackfulCoro.ERR_CLOSE_ACTIVE,
            StackfulCoro.ERR_NOT_SUSPENDED, StackfulCoro.ERR_DEAD
        };
        for (int i = 0; i < faults.length; i++) {
            StackfulCoro x = Asm.ran(1, 1, Asm.create(1, 5), Asm.defer(1), Asm.resume(2, 1, 0), Asm.out(2), Asm.error(2),
                    Asm.loadk(6, 50), Asm.defer(6), faults[i], Asm.ret(0));
            CHECK.log("fault by op " + faults[i][0], x, 50, errors[i], 1);
            CHECK.ended("fault by op " + faults[i][0], x, StackfulCoro.ST_FAILED, errors[i]);
        }
    }

    private static void raiseInMain() {
        CHECK.sentence("If T is main, the state becomes FAILED, the result is e, and no thread is current.");
        for (int e : new int[] {MIN, -1, 0, 1, MAX}) {
            StackfulCoro x = Asm.load(1, 2, Asm.defer(0), Asm.create(1, 0), Asm.call(2, 3, 0), Asm.error(0));
            x.start(0, e);
            x.run(3);
            CHECK.ended("before", x, StackfulCoro.ST_RUNNING, 0);
            x.run(1);
            CHECK.ended("after", x, StackfulCoro.ST_FAILED, e);
            CHECK.due("currentCo()", x.currentCo(), 0);
            CHECK.due("coStatus(0)", x.coStatus(0), StackfulCoro.CO_DEAD);
            CHECK.due("getDepth(0)", x.getDepth(0), 0);
            CHECK.due("getPendingCleanups(0)", x.getPendingCleanups(0), 0);
            CHECK.regs("no registers", x, 0, 0, 0, 0, 0, 0, 0, 0, 0);
            CHECK.log("unwound", x, e);
            CHECK.due("the coroutine stays", x.coStatus(1), StackfulCoro.CO_SUSPENDED);
        }
    }

    private static void raiseInCoroutine() {
        CHECK.sentence("Otherwise T becomes DEAD and e is delivered as failure to T's resumer (see COMPLETION).");
        for (int e : new int[] {MIN, -1, 0, 1, MAX}) {
            StackfulCoro x = Asm.load(2, 2, Asm.create(1, 4), Asm.defer(1), Asm.resume(2, 1, 0), Asm.jmp(3),
                    Asm.create(1, 7), Asm.resume(2, 1, 0), Asm.ret(2),
                    Asm.defer(0), Asm.call(1, 9, 0), Asm.defer(0), Asm.error(0));
            x.start(0, e);
            x.run(8);
            CHECK.due("before", x.coStatus(2), StackfulCoro.CO_RUNNING);
            x.run(1);
            CHECK.due("coStatus(2)", x.coStatus(2), StackfulCoro.CO_DEAD);
            CHECK.due("getDepth(2)", x.getDepth(2), 0);
            CHECK.due("currentCo()", x.currentCo(), 1);
            CHECK.regs("its resumer", x, 1, e, 2, e, 0, 0, 0, 0, 0);
            CHECK.log("unwound", x, e, e);
            CHECK.due("main is not touched", x.coStatus(0), StackfulCoro.CO_NORMAL);
            CHECK.due("main's is pending", x.getPendingCleanups(0), 1);
        }
    }

    // Main and four coroutines, each made and resumed by the one before; the one at place catches with RESUME.
    private static StackfulCoro chain(int catcher) {
        StackfulCoro x = Asm.load(4, 1, Asm.running(1), Asm.defer(1), Asm.loadk(2, 4), Asm.lt(3, 1, 2), Asm.jz(3, 14),
                Asm.loadk(2, catcher), Asm.create(4, 0), Asm.sub(3, 1, 2), Asm.jz(3, 11), Asm.wresume(5, 4, 0), Asm.ret(5),
                Asm.resume(5, 4, 0), Asm.out(6), Asm.ret(5),
                Asm.loadk(6, 66), Asm.error(6));
        x.start(0, 0);
        x.run(4 * 10 + 6);
        return x;
    }

    private static void raisesInOneStep() {
        CHECK.sentence("All of this, including chained raises through WRESUME, belongs to one step.");
        for (int catcher = -1; catcher < 4; catcher++) {
            StackfulCoro x = chain(catcher);
            CHECK.due("catcher " + catcher + ": currentCo()", x.currentCo(), 4);
            CHECK.due("catcher " + catcher + ": getLiveCount()", x.getLiveCount(), 4);
            CHECK.log("catcher " + catcher + ": before", x);
            CHECK.due("catcher " + catcher + ": run(1)", x.run(1), 1);
            CHECK.due("catcher " + catcher + ": getLogCount()", x.getLogCount(), 4 - catcher);
            for (int i = 0; i < 4 - catcher; i++) {
                CHECK.due("catcher " + catcher + ": getLog(" + i + ")", x.getLog(i), 4 - i);
            }
            for (int h = 1; h <= 4; h++) {
                int status = h > catcher ? StackfulCoro.CO_DEAD : h == catcher ? StackfulCoro.CO_RUNNING : StackfulCoro.CO_NORMAL;
                CHECK.due("catcher " + catcher + ": coStatus(" + h + ")", x.coStatus(h), status);
            }
            if (catcher < 0) {
                CHECK.ended("nobody catches", x, StackfulCoro.ST_FAILED, 66);
            } else {
                CHECK.ended("caught", x, StackfulCoro.ST_RUNNING, 0);
                CHECK.due("catcher " + catcher + ": currentCo()", x.currentCo(), catcher);
                CHECK.due("catcher " + catcher + ": r5", x.getReg(catcher, 5), 66);
                CHECK.due("catcher " + catcher + ": r6", x.getReg(catcher, 6), 0);
            }
        }
    }

    // It logs 1, 2, 3, ... with two steps between.
    private static StackfulCoro logging(int entries) {
        StackfulCoro x = Asm.started(1, 1, Asm.loadk(1, 1), Asm.add(0, 0, 1), Asm.out(0), Asm.jmp(1));
        x.run(1 + 3 * entries);
        return x;
    }

    private static void out() {
        CHECK.sentence("OUT: r[a] is appended to the log.");
        for (int a : new int[] {0, 7}) {
            for (int v : new int[] {MIN, -1, 0, 1, MAX}) {
                StackfulCoro x = Asm.started(1, 1, Asm.loadk(6, 9), Asm.out(6), Asm.loadk(a, v), Asm.out(a), Asm.loadk(a, 3));
                x.run(3);
                CHECK.log("before", x, 9);
                x.run(2);
                CHECK.log("after the last entry", x, 9, v);
            }
        }
    }

    private static void logHoldsSixtyFour() {
        CHECK.sentence("**LOG.** The log holds at most 64 entries.");
        for (int entries : new int[] {0, 1, 62, 63, 64, 65, 66, 300}) {
            StackfulCoro x = logging(entries);
            int held = entries < 64 ? entries : 64;
            CHECK.due(entries + " logged: getLogCount()", x.getLogCount(), held);
            for (int i = 0; i < 66; i++) {
                CHECK.due(entries + " logged: getLog(" + i + ")", x.getLog(i), i < held ? i + 1 : 0);
            }
        }
    }

    private static void sixtyFifthIsDropped() {
        CHECK.sentence("An entry appended while 64 are held is dropped; earlier entries never change.");
        StackfulCoro x = logging(64);
        x.run(1);
        for (int more = 0; more < 100; more++) {
            Snapshot before = Snapshot.of(x);
            CHECK.due("OUT with 64 held is a step", x.run(1), 1);
            CHECK.unchanged("OUT with 64 held", x, before);
            x.run(2);
        }
        CHECK.due("the program goes on", x.getReg(0, 0), 165);
        CHECK.due("still running", x.getState(), StackfulCoro.ST_RUNNING);
    }

    // Four tags are performed by RET, ERROR and CLOSE while the log has room for 0 to 5 of them.
    private static void cleanupsAtTheLogsEnd() {
        for (int room = 0; room <= 5; room++) {
            for (int way = 0; way < 3; way++) {
                int[] first = way == 2 ? Asm.yieldTo(0, 0) : way == 1 ? Asm.error(0) : Asm.ret(0);
                StackfulCoro x = Asm.load(1, 1, Asm.loadk(1, 1), Asm.jz(0, 5), Asm.out(0), Asm.sub(0, 0, 1), Asm.jmp(1),
                        Asm.create(1, 9), Asm.resume(2, 1, 0), Asm.close(3, 1), Asm.ret(3),
                        Asm.loadk(1, 201), Asm.defer(1), Asm.loadk(1, 202), Asm.defer(1), Asm.loadk(1, 203), Asm.defer(1),
                        Asm.loadk(1, 204), Asm.defer(1), first);
                x.start(0, 64 - room);
                x.run(1000);
                String what = "room for " + room + ", op " + first[0];
                CHECK.ended(what, x, StackfulCoro.ST_DONE, way == 2 ? 1 : 0);
                CHECK.due(what + ": getLogCount()", x.getLogCount(), room < 4 ? 64 : 68 - room);
                for (int i = 0; i < 64 - room; i++) {
                    CHECK.due(what + ": getLog(" + i + ")", x.getLog(i), 64 - room - i);
                }
                for (int i = 0; i < room; i++) {
                    CHECK.due(what + ": tag " + i, x.getLog(64 - room + i), i < 4 ? 204 - i : 0);
                }
            }
        }
    }
}
