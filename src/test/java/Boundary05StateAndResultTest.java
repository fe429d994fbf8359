/** Promise 5, sentence by sentence: the states, the result before and after the end, and what the end leaves alone. */
public final class Boundary05StateAndResultTest {
    private static final Check CHECK = new Check();
    private static final int MIN = Integer.MIN_VALUE;
    private static final int MAX = Integer.MAX_VALUE;
    private static final int[] VALUES = {MIN, -8, -1, 0, 1, MAX};

    public static void main(String[] args) {
        states();
        endChangesNoOtherCoroutine();
        endLeavesFullRooms();
        resultInDone();
        resultInFailed();
        resultOtherwise();
        gettersChangeNothing();
        CHECK.end();
    }

    private static void states() {
        CHECK.sentence("`getState()` answers `ST_LOADING`, `ST_RUNNING`, `ST_DONE` or `ST_FAILED`.");
        for (int ending = Scene.RETURNS; ending <= Scene.FAILS; ending++) {
            StackfulCoro x = new StackfulCoro(1, 1);
            CHECK.due("empty", x.getState(), StackfulCoro.ST_LOADING);
            x = Scene.loaded();
            CHECK.due("loaded", x.getState(), StackfulCoro.ST_LOADING);
            x.start(-1, ending);
            CHECK.due("after a refused start", x.getState(), StackfulCoro.ST_LOADING);
            x.start(0, ending);
            for (int steps = 0; steps < Scene.STEPS; steps++) {
                CHECK.due("after " + steps + " steps", x.getState(), StackfulCoro.ST_RUNNING);
                x.run(1);
            }
            int end = ending == Scene.RETURNS ? StackfulCoro.ST_DONE : StackfulCoro.ST_FAILED;
            for (int more = 0; more < 5; more++) {
                CHECK.due("at the end", x.getState(), end);
                x.run(1);
                x.start(0, 0);
            }
        }
    }

    private static void endChangesNoOtherCoroutine() {
        CHECK.sentence("When the state becomes DONE or FAILED, no other coroutine changes: a suspended one stays SUSPENDED, "
                + "keeps its frames and pending cleanups, performs no cleanup, and still counts in `getLiveCount`.");
        for (int ending = Scene.RETURNS; ending <= Scene.FAILS; ending++) {
            StackfulCoro x = Scene.at(ending, Scene.STEPS - 1);
            StackfulCoro before = Scene.at(ending, Scene.STEPS - 1);
            CHECK.due("getDepth(1) before", before.getDepth(1), 2);
            CHECK.due("getPendingCleanups(1) before", before.getPendingCleanups(1), 100);
            CHECK.due("getLiveCount() before", before.getLiveCount(), 2);
            x.run(1);
            CHECK.due("getLiveCount()", x.getLiveCount(), 2);
            CHECK.due("getLastHandle()", x.getLastHandle(), before.getLastHandle());
            CHECK.due("only main's tag is performed", x.getLogCount(), before.getLogCount() + 1);
            CHECK.due("main's tag", x.getLog(before.getLogCount()), 70);
            for (int h = 1; h <= 4; h++) {
                CHECK.due("coStatus(" + h + ")", x.coStatus(h), before.coStatus(h));
                CHECK.due("getDepth(" + h + ")", x.getDepth(h), before.getDepth(h));
                CHECK.due("getPendingCleanups(" + h + ")", x.getPendingCleanups(h), before.getPendingCleanups(h));
                for (int r = 0; r < 8; r++) {
                    CHECK.due("getReg(" + h + ", " + r + ")", x.getReg(h, r), before.getReg(h, r));
                }
            }
        }
    }

    // Four coroutines stand suspended in their sixth frame, each with a tag pending in every frame.
    private static void endLeavesFullRooms() {
        int[][] endings = {Asm.ret(0), Asm.error(0), Asm.yieldTo(0, 0), Asm.close(0, 7), Asm.create(0, 0), Asm.wresume(0, 7, 0)};
        for (int[] ending : endings) {
            StackfulCoro x = Asm.load(4, 6, Asm.create(1, 9), Asm.resume(2, 1, 0), Asm.create(1, 9), Asm.resume(2, 1, 0),
                    Asm.create(1, 9), Asm.resume(2, 1, 0), Asm.create(1, 9), Asm.resume(2, 1, 0), ending,
                    Asm.loadk(1, 1), Asm.add(0, 0, 1), Asm.defer(0), Asm.loadk(2, 6), Asm.lt(2, 0, 2), Asm.jz(2, 16), Asm.call(3, 9, 0),
                    Asm.yieldTo(0, 0));
            x.start(0, 0);
            x.run(1000);
            CHECK.due("ended by op " + ending[0], x.getState() > StackfulCoro.ST_RUNNING, true);
            CHECK.due("getLiveCount()", x.getLiveCount(), 4);
            CHECK.log("no cleanup", x);
            for (int h = 1; h <= 4; h++) {
                CHECK.due("coStatus(" + h + ")", x.coStatus(h), StackfulCoro.CO_SUSPENDED);
                CHECK.due("getDepth(" + h + ")", x.getDepth(h), 6);
                CHECK.due("getReg(" + h + ", 0)", x.getReg(h, 0), 6);
                CHECK.due("getPendingCleanups(" + h + ")", x.getPendingCleanups(h), 21);
            }
            CHECK.due("run after the end", x.run(1000), 0);
            CHECK.due("getPendingCleanups(4)", x.getPendingCleanups(4), 21);
        }
    }

    private static void resultInDone() {
        CHECK.sentence("In DONE, `getResult()` answers the value main returned.");
        for (int v : VALUES) {
            StackfulCoro x = Asm.load(1, 2, Asm.call(1, 2, 0), Asm.ret(1), Asm.ret(0));
            x.start(0, v);
            x.run(2);
            CHECK.ended("a return inside main", x, StackfulCoro.ST_RUNNING, 0);
            x.run(1);
            CHECK.ended("the return of main", x, StackfulCoro.ST_DONE, v);
            x.run(1000);
            CHECK.ended("later", x, StackfulCoro.ST_DONE, v);
        }
    }

    private static void resultInFailed() {
        CHECK.sentence("In FAILED it answers the error that ended main.");
        for (int e : VALUES) {
            StackfulCoro x = Asm.load(1, 1, Asm.error(0));
            x.start(0, e);
            x.run(1000);
            CHECK.ended("ERROR in main", x, StackfulCoro.ST_FAILED, e);
            x.run(1000);
            CHECK.ended("later", x, StackfulCoro.ST_FAILED, e);
            StackfulCoro y = Asm.load(1, 1, Asm.create(1, 3), Asm.wresume(2, 1, 0), Asm.ret(2), Asm.error(0));
            y.start(0, e);
            y.run(1000);
            CHECK.ended("ERROR in a coroutine that main wraps", y, StackfulCoro.ST_FAILED, e);
        }
        StackfulCoro last = Asm.load(1, 1, Asm.create(1, 4), Asm.resume(2, 1, 0), Asm.loadk(3, 8), Asm.error(3), Asm.error(0));
        last.start(0, 5);
        last.run(1000);
        CHECK.ended("not an earlier error that was caught", last, StackfulCoro.ST_FAILED, 8);
    }

    private static void resultOtherwise() {
        CHECK.sentence("Otherwise it answers 0.");
        CHECK.due("empty", new StackfulCoro(1, 1).getResult(), 0);
        CHECK.due("loaded", Scene.loaded().getResult(), 0);
        for (int steps = 0; steps < Scene.STEPS; steps++) {
            CHECK.due("returning, after " + steps, Scene.at(Scene.RETURNS, steps).getResult(), 0);
            CHECK.due("failing, after " + steps, Scene.at(Scene.FAILS, steps).getResult(), 0);
        }
        StackfulCoro x = Asm.load(1, 1, Asm.create(1, 3), Asm.resume(2, 1, 0), Asm.jmp(2), Asm.error(0));
        x.start(0, 5);
        x.run(5);
        CHECK.ended("a coroutine failed, main did not", x, StackfulCoro.ST_RUNNING, 0);
    }

    private static void gettersChangeNothing() {
        CHECK.sentence("Neither method changes anything.");
        for (int ending = Scene.RETURNS; ending <= Scene.FAILS; ending++) {
            for (int steps = 0; steps <= Scene.STEPS; steps++) {
                StackfulCoro x = Scene.at(ending, steps);
                int state = x.getState();
                int result = x.getResult();
                CHECK.due("getState() again", x.getState(), state);
                CHECK.due("getResult() again", x.getResult(), result);
                CHECK.sameFuture(Scene.name(ending, steps), x, Scene.at(ending, steps));
            }
        }
    }
}
