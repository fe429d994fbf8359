/** Promise 6, sentence by sentence: each status just before and just after it changes, and the handles around the last. */
public final class Boundary06StatusTest {
    private static final Check CHECK = new Check();
    private static final int MIN = Integer.MIN_VALUE;
    private static final int MAX = Integer.MAX_VALUE;
    private static final int SUSPENDED = StackfulCoro.CO_SUSPENDED;
    private static final int RUNNING = StackfulCoro.CO_RUNNING;
    private static final int NORMAL = StackfulCoro.CO_NORMAL;
    private static final int DEAD = StackfulCoro.CO_DEAD;

    public static void main(String[] args) {
        suspended();
        running();
        normal();
        liveWhileNotDead();
        neverGivenOut();
        main();
        deadIsFinal();
        aboveTheLastHandle();
        laterResumeOfDead();
        currentHandle();
        gettersChangeNothing();
        CHECK.end();
    }

    private static void suspended() {
        CHECK.sentence("SUSPENDED: created and not started, or stopped at a YIELD;");
        StackfulCoro x = Asm.started(1, 2, Asm.create(1, 3), Asm.resume(2, 1, 0), Asm.jmp(1),
                Asm.yieldTo(0, 0), Asm.call(1, 5, 0), Asm.yieldTo(0, 0), Asm.ret(0));
        CHECK.due("before CREATE", x.coStatus(1), DEAD);
        int[] due = {SUSPENDED, RUNNING, SUSPENDED, SUSPENDED, RUNNING, RUNNING, SUSPENDED, SUSPENDED, RUNNING};
        for (int step = 0; step < due.length; step++) {
            x.run(1);
            CHECK.due("after step " + (step + 1), x.coStatus(1), due[step]);
        }
    }

    private static void running() {
        CHECK.sentence("RUNNING: it is the current thread;");
        for (int steps = 0; steps < Scene.STEPS; steps++) {
            StackfulCoro x = Scene.at(Scene.RETURNS, steps);
            for (int h = 0; h <= x.getLastHandle(); h++) {
                CHECK.due("coStatus(" + h + ") after " + steps, x.coStatus(h) == RUNNING, h == x.currentCo());
            }
        }
    }

    // Main resumes 1 and 1 resumes 2, which stops in each of the three ways.
    private static void normal() {
        CHECK.sentence("NORMAL: it resumed a coroutine that has not yet yielded, returned or failed;");
        for (int[] stop : new int[][] {Asm.yieldTo(0, 0), Asm.ret(0), Asm.error(0)}) {
            StackfulCoro x = Asm.started(2, 1, Asm.create(1, 3), Asm.resume(2, 1, 0), Asm.jmp(2),
                    Asm.create(1, 7), Asm.resume(2, 1, 0), Asm.move(3, 2), stop,
                    Asm.move(3, 2), stop);
            int[] one = {SUSPENDED, RUNNING, RUNNING, NORMAL, NORMAL, RUNNING, RUNNING, stop[0] == StackfulCoro.OP_YIELD ? SUSPENDED : DEAD};
            for (int step = 0; step < one.length; step++) {
                x.run(1);
                CHECK.due("op " + stop[0] + ": coStatus(1) after step " + (step + 1), x.coStatus(1), one[step]);
                CHECK.due("op " + stop[0] + ": coStatus(0) after step " + (step + 1), x.coStatus(0),
                        step == 0 || step == 7 ? RUNNING : NORMAL);
            }
        }
        StackfulCoro failing = Asm.started(1, 1, Asm.create(1, 2), Asm.resume(2, 1, 1), Asm.resume(4, 0, 0));
        failing.run(3);
        CHECK.due("a RESUME that fails makes nothing NORMAL", failing.coStatus(1), RUNNING);
    }

    private static void liveWhileNotDead() {
        CHECK.sentence("A coroutine is live while it is not DEAD.");
        for (int ending = Scene.RETURNS; ending <= Scene.FAILS; ending++) {
            for (int steps = 0; steps <= Scene.STEPS; steps++) {
                StackfulCoro x = Scene.at(ending, steps);
                int live = 0;
                for (int h = 1; h <= x.getLastHandle(); h++) {
                    live += x.coStatus(h) == DEAD ? 0 : 1;
                }
                CHECK.due(Scene.name(ending, steps), x.getLiveCount(), live);
            }
        }
    }

    private static void neverGivenOut() {
        CHECK.sentence("Every handle never given out counts as DEAD. This includes every h greater than `getLastHandle()` and every negative h.");
        for (int ending = Scene.RETURNS; ending <= Scene.FAILS; ending++) {
            for (int steps = 0; steps <= Scene.STEPS; steps++) {
                StackfulCoro x = Scene.at(ending, steps);
                int last = x.getLastHandle();
                for (int h : new int[] {MIN, MIN + 1, -4, -3, -2, -1, last + 1, last + 2, last + 3, last + 4, 64, 256, 65536, MAX - 1, MAX}) {
                    CHECK.due("coStatus(" + h + "), " + Scene.name(ending, steps), x.coStatus(h), DEAD);
                }
            }
        }
    }

    private static void main() {
        CHECK.sentence("It is RUNNING if the state is RUNNING and main is current. "
                + "It is NORMAL if the state is RUNNING and main is not current. It is DEAD in states LOADING, DONE and FAILED.");
        CHECK.due("empty", new StackfulCoro(4, 6).coStatus(0), DEAD);
        CHECK.due("loaded", Scene.loaded().coStatus(0), DEAD);
        for (int ending = Scene.RETURNS; ending <= Scene.FAILS; ending++) {
            for (int steps = 0; steps < Scene.STEPS; steps++) {
                StackfulCoro x = Scene.at(ending, steps);
                CHECK.due(Scene.name(ending, steps), x.coStatus(0), x.currentCo() == 0 ? RUNNING : NORMAL);
            }
            CHECK.due("ended", Scene.at(ending, Scene.STEPS).coStatus(0), DEAD);
        }
        StackfulCoro wrapped = Asm.started(1, 1, Asm.create(1, 2), Asm.wresume(2, 1, 0), Asm.error(0));
        wrapped.run(2);
        CHECK.due("main waits", wrapped.coStatus(0), NORMAL);
        wrapped.run(1);
        CHECK.due("main failed while it waited", wrapped.coStatus(0), DEAD);
    }

    // Each round makes a coroutine in the only room and lets it die in one of four ways.
    private static StackfulCoro mortal(int[] death, int[] afterwards) {
        return Asm.started(1, 1, Asm.create(1, 5), Asm.resume(2, 1, 0), afterwards, Asm.jmp(0), Asm.jmp(4), death);
    }

    private static void deadIsFinal() {
        CHECK.sentence("Once `coStatus(h)` answers `CO_DEAD` for a handle that has been given out (1 <= h <= `getLastHandle()`), "
                + "it answers `CO_DEAD` after every later call.");
        for (int[][] way : Scene.deaths()) {
            StackfulCoro x = mortal(way[0], way[1]);
            boolean[] dead = new boolean[100];
            for (int step = 0; step < 300; step++) {
                x.run(1);
                for (int h = 1; h <= x.getLastHandle(); h++) {
                    if (dead[h]) {
                        CHECK.due("op " + way[0][0] + ": coStatus(" + h + ") in step " + step, x.coStatus(h), DEAD);
                    }
                    dead[h] |= x.coStatus(h) == DEAD;
                }
                x.emit(0, 0, 0, 0);
                x.start(0, 0);
            }
            CHECK.due("many died by op " + way[0][0], dead[x.getLastHandle() - 1] && x.getLastHandle() >= 50, true);
        }
    }

    private static void aboveTheLastHandle() {
        CHECK.sentence("A handle above `getLastHandle()` also answers `CO_DEAD` but may later be given out by CREATE and become SUSPENDED.");
        StackfulCoro x = Asm.started(4, 1, Asm.create(1, 0), Asm.create(1, 0), Asm.create(1, 0), Asm.create(1, 0));
        for (int h = 1; h <= 4; h++) {
            CHECK.due("getLastHandle()", x.getLastHandle(), h - 1);
            CHECK.due("before CREATE: coStatus(" + h + ")", x.coStatus(h), DEAD);
            x.run(1);
            CHECK.due("after CREATE: coStatus(" + h + ")", x.coStatus(h), SUSPENDED);
            CHECK.due("after CREATE: coStatus(" + (h + 1) + ")", x.coStatus(h + 1), DEAD);
        }
    }

    // The dead handle 1 is resumed while its room stands empty, and while another coroutine lives in it.
    private static void laterResumeOfDead() {
        CHECK.sentence("Every later RESUME or WRESUME of such a given-out DEAD handle h completes with failure ERR_DEAD.");
        for (int[][] way : Scene.deaths()) {
            StackfulCoro x = Asm.started(1, 1, Asm.create(1, 12), Asm.resume(2, 1, 0), way[1],
                    Asm.resume(2, 1, 0), Asm.out(2), Asm.out(3), Asm.create(4, 12), Asm.resume(2, 1, 0), Asm.out(2), Asm.out(3),
                    Asm.wresume(2, 1, 0), Asm.out(2), way[0]);
            x.run(1000);
            CHECK.log("after op " + way[0][0], x, StackfulCoro.ERR_DEAD, 0, StackfulCoro.ERR_DEAD, 0);
            CHECK.ended("after op " + way[0][0], x, StackfulCoro.ST_FAILED, StackfulCoro.ERR_DEAD);
            CHECK.due("the new one is as it was made", x.coStatus(2), SUSPENDED);
            CHECK.due("and has no frames", x.getDepth(2), 0);
        }
    }

    private static void currentHandle() {
        CHECK.sentence("`currentCo()` answers the handle of the current thread if the state is RUNNING, otherwise 0.");
        CHECK.due("empty", new StackfulCoro(1, 1).currentCo(), 0);
        CHECK.due("loaded", Scene.loaded().currentCo(), 0);
        int[] current = {0, 0, 0, 0, 1, 1, 1, 1, 1, 0, 0, 0, 2, 2, 1, 1, 2, 2, 0, 0, 0, 0, 0, 0, 0, 0};
        for (int steps = 0; steps <= Scene.STEPS; steps++) {
            CHECK.due("after " + steps + " steps", Scene.at(Scene.RETURNS, steps).currentCo(), current[steps]);
        }
        StackfulCoro wrapped = Asm.started(2, 1, Asm.create(1, 4), Asm.close(2, 1), Asm.create(1, 4), Asm.wresume(2, 1, 0), Asm.error(0));
        wrapped.run(4);
        CHECK.due("handle 2, the only one live", wrapped.currentCo(), 2);
        wrapped.run(1);
        CHECK.ended("it took main with it", wrapped, StackfulCoro.ST_FAILED, 0);
        CHECK.due("nobody is current", wrapped.currentCo(), 0);
    }

    private static void gettersChangeNothing() {
        CHECK.sentence("Neither method changes anything.");
        for (int steps = 0; steps <= Scene.STEPS; steps++) {
            StackfulCoro x = Scene.at(Scene.FAILS, steps);
            int current = x.currentCo();
            for (int h : new int[] {MIN, -1, 0, 1, 2, 3, 4, MAX}) {
                int status = x.coStatus(h);
                CHECK.due("coStatus(" + h + ") again", x.coStatus(h), status);
                CHECK.due("currentCo() again", x.currentCo(), current);
            }
            CHECK.sameFuture(Scene.name(Scene.FAILS, steps), x, Scene.at(Scene.FAILS, steps));
        }
    }
}
