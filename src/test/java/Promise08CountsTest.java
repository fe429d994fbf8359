/** Promise 8: getLiveCount and getLastHandle. */
public final class Promise08CountsTest {
    private static final Check CHECK = new Check();

    public static void main(String[] args) {
        everyWayToLiveAndDie();
        neverAboveMaxCo();
        CHECK.end();
    }

    private static void counts(String when, StackfulCoro x, int live, int last) {
        CHECK.due(when + ": getLiveCount()", x.getLiveCount(), live);
        CHECK.due(when + ": getLastHandle()", x.getLastHandle(), last);
        int notDead = 0;
        for (int h = 1; h <= x.getLastHandle(); h++) {
            if (x.coStatus(h) != StackfulCoro.CO_DEAD) {
                notDead++;
            }
        }
        CHECK.due(when + ": handles that are not dead", notDead, live);
    }

    private static void everyWayToLiveAndDie() {
        StackfulCoro x = Asm.load(3, 1,
                Asm.create(1, 8), Asm.create(2, 9), Asm.create(3, 10), Asm.resume(4, 1, 0), Asm.resume(4, 2, 0),
                Asm.resume(4, 3, 0), Asm.close(4, 3), Asm.create(1, 10),
                Asm.ret(0), Asm.error(0), Asm.yieldTo(0, 0));
        counts("loading", x, 0, 0);
        x.start(0, 0);
        counts("started", x, 0, 0);
        x.run(1);
        counts("one", x, 1, 1);
        x.run(2);
        counts("three", x, 3, 3);
        x.run(1);
        counts("1 runs", x, 3, 3);
        x.run(1);
        counts("1 returned", x, 2, 3);
        x.run(2);
        counts("2 failed", x, 1, 3);
        x.run(2);
        counts("3 yielded", x, 1, 3);
        x.run(1);
        counts("3 closed", x, 0, 3);
        x.run(1);
        counts("a fourth", x, 1, 4);
        x.run(2);
        CHECK.due("main fell into RET", x.getState(), StackfulCoro.ST_DONE);
        counts("done", x, 1, 4);
    }

    private static void neverAboveMaxCo() {
        for (int maxCo = 1; maxCo <= 4; maxCo++) {
            StackfulCoro x = Asm.started(maxCo, 1, Asm.create(1, 2), Asm.jmp(0), Asm.ret(0));
            for (int i = 1; i <= maxCo; i++) {
                x.run(i == 1 ? 1 : 2);
                counts("maxCo " + maxCo, x, i, i);
            }
            x.run(2);
            CHECK.due("one more fails", x.getResult(), StackfulCoro.ERR_TOO_MANY);
            counts("maxCo " + maxCo + " after the failure", x, maxCo, maxCo);
        }
    }
}
