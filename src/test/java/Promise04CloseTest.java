/** Promise 4, CLOSE. */
public final class Promise04CloseTest {
    private static final Check CHECK = new Check();

    public static void main(String[] args) {
        closeNew();
        closeSuspended();
        closeDead();
        closeActive();
        closeNormal();
        closeMakesRoom();
        CHECK.end();
    }

    private static void closeNew() {
        StackfulCoro x = Asm.started(1, 1, Asm.create(1, 3), Asm.close(1, 1), Asm.jmp(2), Asm.ret(0));
        x.run(2);
        CHECK.due("r1 was the handle and is the answer", x.getReg(0, 1), 1);
        CHECK.due("coStatus(1)", x.coStatus(1), StackfulCoro.CO_DEAD);
        CHECK.due("getLiveCount()", x.getLiveCount(), 0);
        CHECK.log("nothing to clean up", x);
        CHECK.due("main goes on", x.run(5), 5);
    }

    private static void closeSuspended() {
        StackfulCoro x = Asm.started(1, 3,
                Asm.loadk(7, 90), Asm.defer(7), Asm.create(1, 7), Asm.resume(2, 1, 0), Asm.close(6, 1), Asm.close(6, 1), Asm.ret(6),
                Asm.loadk(1, 1), Asm.defer(1), Asm.loadk(1, 2), Asm.defer(1), Asm.call(2, 12, 0),
                Asm.loadk(1, 3), Asm.defer(1), Asm.call(2, 15, 0),
                Asm.loadk(1, 4), Asm.defer(1), Asm.loadk(1, 5), Asm.defer(1), Asm.yieldTo(1, 2), Asm.out(1), Asm.ret(1));
        x.run(17);
        CHECK.due("suspended", x.coStatus(1), StackfulCoro.CO_SUSPENDED);
        CHECK.due("getDepth(1)", x.getDepth(1), 3);
        CHECK.due("getPendingCleanups(1)", x.getPendingCleanups(1), 15);
        CHECK.log("nothing performed yet", x);
        x.run(1);
        CHECK.log("from the top frame down, latest first", x, 5, 4, 3, 2, 1);
        CHECK.due("r6", x.getReg(0, 6), 1);
        CHECK.due("coStatus(1)", x.coStatus(1), StackfulCoro.CO_DEAD);
        CHECK.due("getDepth(1)", x.getDepth(1), 0);
        CHECK.due("getPendingCleanups(1)", x.getPendingCleanups(1), 0);
        CHECK.due("main keeps its tag", x.getPendingCleanups(0), 90);
        x.run(1);
        CHECK.due("closed again", x.getReg(0, 6), 0);
        CHECK.log("closed again", x, 5, 4, 3, 2, 1);
    }

    private static void closeDead() {
        for (int h : new int[] {Integer.MIN_VALUE, -1, 1, 2, Integer.MAX_VALUE}) {
            StackfulCoro x = Asm.started(1, 1, Asm.create(3, 5), Asm.resume(3, 3, 0), Asm.loadk(1, h), Asm.loadk(2, 9),
                    Asm.close(2, 1), Asm.ret(0));
            x.run(6);
            CHECK.due("CLOSE of " + h, x.getReg(0, 2), 0);
            CHECK.due("main goes on", x.getState(), StackfulCoro.ST_RUNNING);
        }
    }

    private static void closeActive() {
        StackfulCoro main = Asm.ran(1, 1, Asm.loadk(1, 3), Asm.defer(1), Asm.close(1, 0), Asm.ret(1));
        CHECK.ended("main closes main", main, StackfulCoro.ST_FAILED, StackfulCoro.ERR_CLOSE_ACTIVE);
        CHECK.log("main closes main", main, 3);
        StackfulCoro self = Asm.ran(1, 1, Asm.create(1, 3), Asm.resume(2, 1, 1), Asm.ret(2), Asm.close(1, 0), Asm.out(1));
        CHECK.ended("a coroutine closes itself", self, StackfulCoro.ST_DONE, StackfulCoro.ERR_CLOSE_ACTIVE);
        StackfulCoro up = Asm.ran(1, 1, Asm.create(1, 3), Asm.resume(2, 1, 0), Asm.ret(2), Asm.close(1, 0), Asm.out(1));
        CHECK.ended("a coroutine closes main", up, StackfulCoro.ST_DONE, StackfulCoro.ERR_CLOSE_ACTIVE);
    }

    private static void closeNormal() {
        StackfulCoro x = Asm.ran(2, 1, Asm.create(1, 3), Asm.resume(2, 1, 1), Asm.ret(2),
                Asm.create(1, 7), Asm.resume(2, 1, 0), Asm.out(2), Asm.ret(0),
                Asm.close(2, 0), Asm.ret(0));
        CHECK.log("a coroutine closes its resumer", x, StackfulCoro.ERR_CLOSE_ACTIVE);
        CHECK.ended("which goes on", x, StackfulCoro.ST_DONE, 1);
    }

    private static void closeMakesRoom() {
        StackfulCoro x = Asm.started(1, 2, Asm.create(1, 4), Asm.resume(2, 1, 0), Asm.close(2, 1), Asm.jmp(0),
                Asm.out(7), Asm.loadk(7, 6), Asm.defer(7), Asm.yieldTo(7, 7));
        x.run(8 * 10);
        CHECK.due("getLastHandle()", x.getLastHandle(), 10);
        CHECK.due("getLiveCount()", x.getLiveCount(), 0);
        CHECK.due("getLogCount()", x.getLogCount(), 20);
        for (int i = 0; i < 20; i++) {
            CHECK.due("getLog(" + i + ")", x.getLog(i), i % 2 == 0 ? 0 : 6);
        }
    }
}
