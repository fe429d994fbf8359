/** Promise 8, sentence by sentence: the live count between none and maxCo, and the last handle. */
public final class Boundary08CountsTest {
    private static final Check CHECK = new Check();

    public static void main(String[] args) {
        notDead();
        equalsTheHandles();
        neverAboveMaxCo();
        greatestHandle();
        neverDecreases();
        gettersChangeNothing();
        CHECK.end();
    }

    // All four rooms are filled and emptied again, by RET, ERROR, CLOSE of a new one and CLOSE of one that yielded.
    private static void notDead() {
        CHECK.sentence("`getLiveCount()` answers the number of coroutines that are not DEAD.");
        StackfulCoro x = Asm.started(4, 1, Asm.create(1, 11), Asm.create(2, 12), Asm.create(3, 11), Asm.create(4, 13),
                Asm.resume(5, 1, 0), Asm.resume(5, 2, 0), Asm.close(5, 3), Asm.resume(5, 4, 0), Asm.close(5, 4), Asm.close(5, 4), Asm.jmp(10),
                Asm.ret(0), Asm.error(0), Asm.yieldTo(0, 0));
        int[] live = {0, 1, 2, 3, 4, 4, 3, 3, 2, 1, 1, 1, 0, 0, 0};
        for (int step = 0; step < live.length; step++) {
            CHECK.due("after " + step + " steps", x.getLiveCount(), live[step]);
            x.run(1);
        }
        CHECK.due("an empty machine", new StackfulCoro(4, 6).getLiveCount(), 0);
    }

    private static int counted(StackfulCoro x) {
        int live = 0;
        for (int h = 1; h <= x.getLastHandle(); h++) {
            live += x.coStatus(h) != StackfulCoro.CO_DEAD ? 1 : 0;
        }
        return live;
    }

    private static void equalsTheHandles() {
        CHECK.sentence("After every call it equals the number of handles h in 1..`getLastHandle()` with `coStatus(h) != CO_DEAD`.");
        for (int ending = Scene.RETURNS; ending <= Scene.FAILS; ending++) {
            StackfulCoro x = Scene.loaded();
            CHECK.due("loaded", x.getLiveCount(), counted(x));
            x.start(99, 0);
            CHECK.due("after a refused start", x.getLiveCount(), counted(x));
            x.start(0, ending);
            CHECK.due("after start", x.getLiveCount(), counted(x));
            for (int steps = 1; steps <= Scene.STEPS + 2; steps++) {
                x.run(1);
                CHECK.due("after " + steps + " steps", x.getLiveCount(), counted(x));
                x.emit(0, 0, 0, 0);
                CHECK.due("after a refused emit", x.getLiveCount(), counted(x));
            }
        }
    }

    // Rooms are filled, one is freed and filled again, and one more is asked for.
    private static void neverAboveMaxCo() {
        CHECK.sentence("It never exceeds the clamped maxCo.");
        int[][] clamps = {{Integer.MIN_VALUE, 1}, {0, 1}, {1, 1}, {2, 2}, {3, 3}, {4, 4}, {5, 4}, {Integer.MAX_VALUE, 4}};
        for (int[] c : clamps) {
            StackfulCoro x = Asm.started(c[0], 1, Asm.create(1, 4), Asm.loadk(2, c[1]), Asm.lt(3, 1, 2), Asm.jz(3, 5), Asm.jmp(0),
                    Asm.close(4, 1), Asm.create(1, 4), Asm.create(1, 4));
            int most = 0;
            for (int step = 0; step < 60; step++) {
                x.run(1);
                most = x.getLiveCount() > most ? x.getLiveCount() : most;
            }
            CHECK.due("maxCo " + c[0] + ": the most", most, c[1]);
            CHECK.ended("maxCo " + c[0], x, StackfulCoro.ST_FAILED, StackfulCoro.ERR_TOO_MANY);
            CHECK.due("maxCo " + c[0] + ": at the end", x.getLiveCount(), c[1]);
        }
    }

    private static void greatestHandle() {
        CHECK.sentence("`getLastHandle()` answers the greatest handle given out so far, or 0 if none.");
        CHECK.due("empty", new StackfulCoro(4, 6).getLastHandle(), 0);
        StackfulCoro x = Asm.load(2, 1, Asm.create(1, 5), Asm.create(2, 5), Asm.close(3, 1), Asm.create(4, 5), Asm.create(5, 5), Asm.ret(0));
        CHECK.due("loaded", x.getLastHandle(), 0);
        x.start(0, 0);
        int[] last = {0, 1, 2, 2, 3, 3};
        for (int step = 0; step < last.length; step++) {
            CHECK.due("after " + step + " steps", x.getLastHandle(), last[step]);
            x.run(1);
        }
        CHECK.ended("the last CREATE was one too many", x, StackfulCoro.ST_FAILED, StackfulCoro.ERR_TOO_MANY);
    }

    private static void neverDecreases() {
        CHECK.sentence("It never decreases.");
        for (int ending = Scene.RETURNS; ending <= Scene.FAILS; ending++) {
            StackfulCoro x = Scene.at(ending, 0);
            int before = 0;
            for (int step = 0; step < Scene.STEPS + 3; step++) {
                CHECK.due("after " + step + " steps", x.getLastHandle() >= before, true);
                before = x.getLastHandle();
                x.run(1);
            }
            CHECK.due("at the end", x.getLastHandle(), 3);
        }
        StackfulCoro all = Asm.started(4, 1, Asm.create(1, 0), Asm.close(1, 1), Asm.jmp(0));
        for (int h = 1; h <= 500; h++) {
            all.run(1);
            CHECK.due("given out", all.getLastHandle(), h);
            all.run(2);
            CHECK.due("with none live", all.getLastHandle(), h);
        }
    }

    private static void gettersChangeNothing() {
        CHECK.sentence("Neither method changes anything.");
        for (int steps = 0; steps <= Scene.STEPS; steps++) {
            StackfulCoro x = Scene.at(Scene.FAILS, steps);
            int live = x.getLiveCount();
            int last = x.getLastHandle();
            CHECK.due("getLiveCount() again", x.getLiveCount(), live);
            CHECK.due("getLastHandle() again", x.getLastHandle(), last);
            CHECK.sameFuture(Scene.name(Scene.FAILS, steps), x, Scene.at(Scene.FAILS, steps));
        }
    }
}
