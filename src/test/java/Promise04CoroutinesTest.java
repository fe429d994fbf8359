/** Promise 4, CREATE, RESUME, WRESUME and YIELD. */
public final class Promise04CoroutinesTest {
    private static final Check CHECK = new Check();

    public static void main(String[] args) {
        createStartsNothing();
        tooMany();
        deadMakesRoom();
        firstResumeGivesTheArgument();
        yieldFromDeepInside();
        yieldIntoTheRegisterItGave();
        returnDelivers();
        flagWrapsPastR7();
        wresumeLeavesTheFlag();
        completionInADeepFrame();
        resumedByAnother();
        operandsAreReadBeforeCompletion();
        handlesRunOut();
        CHECK.end();
    }

    private static void createStartsNothing() {
        StackfulCoro x = Asm.started(2, 2, Asm.create(1, 2), Asm.create(1, 2), Asm.ret(0));
        x.run(1);
        CHECK.due("r1", x.getReg(0, 1), 1);
        CHECK.due("coStatus(1)", x.coStatus(1), StackfulCoro.CO_SUSPENDED);
        CHECK.due("getDepth(1)", x.getDepth(1), 0);
        CHECK.due("currentCo()", x.currentCo(), 0);
        x.run(1);
        CHECK.due("r1 is the next handle", x.getReg(0, 1), 2);
        CHECK.due("coStatus(2)", x.coStatus(2), StackfulCoro.CO_SUSPENDED);
    }

    private static void tooMany() {
        StackfulCoro x = Asm.ran(2, 2, Asm.create(1, 5), Asm.resume(2, 1, 0), Asm.out(2), Asm.out(3), Asm.ret(2),
                Asm.loadk(4, 6), Asm.defer(4), Asm.create(5, 0), Asm.create(5, 0), Asm.out(4));
        CHECK.log("the third live coroutine", x, 6, StackfulCoro.ERR_TOO_MANY, 0);
        CHECK.due("getLastHandle()", x.getLastHandle(), 2);
        CHECK.due("getLiveCount()", x.getLiveCount(), 1);
        CHECK.due("coStatus(1)", x.coStatus(1), StackfulCoro.CO_DEAD);
        CHECK.due("coStatus(2)", x.coStatus(2), StackfulCoro.CO_SUSPENDED);
    }

    private static void deadMakesRoom() {
        StackfulCoro x = Asm.started(1, 1, Asm.create(1, 3), Asm.resume(2, 1, 0), Asm.jmp(0), Asm.ret(0));
        for (int h = 1; h <= 200; h++) {
            CHECK.due("round " + h, x.run(4), 4);
            CHECK.due("getLastHandle()", x.getLastHandle(), h);
            CHECK.due("coStatus(" + h + ")", x.coStatus(h), StackfulCoro.CO_DEAD);
            CHECK.due("getLiveCount()", x.getLiveCount(), 0);
        }
    }

    private static void firstResumeGivesTheArgument() {
        StackfulCoro x = Asm.started(1, 1, Asm.create(1, 3), Asm.loadk(2, 55), Asm.resume(3, 1, 2), Asm.jmp(3));
        x.run(3);
        CHECK.due("getReg(1, 0)", x.getReg(1, 0), 55);
        for (int r = 1; r < 8; r++) {
            CHECK.due("getReg(1, " + r + ")", x.getReg(1, r), 0);
        }
        CHECK.due("getDepth(1)", x.getDepth(1), 1);
        CHECK.due("getPendingCleanups(1)", x.getPendingCleanups(1), 0);
        CHECK.due("coStatus(0)", x.coStatus(0), StackfulCoro.CO_NORMAL);
        CHECK.due("coStatus(1)", x.coStatus(1), StackfulCoro.CO_RUNNING);
        CHECK.due("the resumer's register waits", x.getReg(0, 3), 0);
    }

    private static void yieldFromDeepInside() {
        StackfulCoro x = Asm.started(1, 3,
                Asm.create(1, 7), Asm.loadk(2, 10), Asm.resume(3, 1, 2), Asm.loadk(2, 20), Asm.resume(5, 1, 2),
                Asm.status(7, 1), Asm.ret(5),
                Asm.loadk(6, 600), Asm.call(1, 10, 0), Asm.ret(1),
                Asm.call(1, 13, 0), Asm.add(1, 1, 0), Asm.ret(1),
                Asm.loadk(5, 500), Asm.yieldTo(0, 4), Asm.add(4, 4, 5), Asm.ret(4));
        x.run(8);
        CHECK.due("back in main", x.currentCo(), 0);
        CHECK.due("r3 is what was yielded", x.getReg(0, 3), 10);
        CHECK.due("r4 tells success", x.getReg(0, 4), 1);
        CHECK.due("coStatus(1)", x.coStatus(1), StackfulCoro.CO_SUSPENDED);
        CHECK.due("getDepth(1)", x.getDepth(1), 3);
        CHECK.due("getReg(1, 5) of the frame that yielded", x.getReg(1, 5), 500);
        CHECK.due("getReg(1, 4) waits for the resume", x.getReg(1, 4), 0);
        x.run(2);
        CHECK.due("getReg(1, 4) got the value", x.getReg(1, 4), 20);
        CHECK.due("getReg(1, 0) is kept", x.getReg(1, 0), 10);
        x.run(5);
        CHECK.due("r5 is what was returned", x.getReg(0, 5), 530);
        CHECK.due("r6 tells success", x.getReg(0, 6), 1);
        x.run(1000);
        CHECK.ended("deep yield", x, StackfulCoro.ST_DONE, 530);
    }

    private static void yieldIntoTheRegisterItGave() {
        StackfulCoro x = Asm.ran(1, 1,
                Asm.create(1, 6), Asm.loadk(2, 3), Asm.wresume(3, 1, 2), Asm.out(3), Asm.wresume(3, 1, 3), Asm.ret(3),
                Asm.add(0, 0, 0), Asm.yieldTo(0, 0), Asm.jmp(6));
        CHECK.log("first", x, 6);
        CHECK.ended("second", x, StackfulCoro.ST_DONE, 12);
    }

    private static void returnDelivers() {
        StackfulCoro x = Asm.ran(1, 1,
                Asm.create(1, 6), Asm.loadk(2, 3), Asm.resume(3, 1, 2), Asm.out(4), Asm.resume(5, 1, 2), Asm.ret(3),
                Asm.loadk(1, 70), Asm.defer(1), Asm.add(0, 0, 0), Asm.ret(0));
        CHECK.log("its cleanups come first", x, 70, 1);
        CHECK.ended("returned value", x, StackfulCoro.ST_DONE, 6);
        CHECK.due("coStatus(1)", x.coStatus(1), StackfulCoro.CO_DEAD);
    }

    private static void flagWrapsPastR7() {
        StackfulCoro x = Asm.started(1, 1, Asm.create(1, 4), Asm.loadk(0, 5), Asm.resume(7, 1, 0), Asm.jmp(3), Asm.ret(0));
        x.run(4);
        CHECK.due("r7 is the value", x.getReg(0, 7), 5);
        CHECK.due("r0 is the flag", x.getReg(0, 0), 1);
        StackfulCoro y = Asm.started(1, 1, Asm.create(1, 4), Asm.loadk(0, 5), Asm.resume(7, 1, 0), Asm.jmp(3), Asm.error(0));
        y.run(4);
        CHECK.due("r7 is the error", y.getReg(0, 7), 5);
        CHECK.due("r0 is the flag of failure", y.getReg(0, 0), 0);
    }

    private static void wresumeLeavesTheFlag() {
        StackfulCoro x = Asm.started(1, 1,
                Asm.create(1, 6), Asm.loadk(3, 33), Asm.loadk(0, 4), Asm.wresume(2, 1, 0), Asm.wresume(2, 1, 3), Asm.jmp(5),
                Asm.yieldTo(0, 0), Asm.ret(0));
        x.run(5);
        CHECK.due("r2 after the yield", x.getReg(0, 2), 4);
        CHECK.due("r3 after the yield", x.getReg(0, 3), 33);
        x.run(2);
        CHECK.due("r2 after the return", x.getReg(0, 2), 33);
        CHECK.due("r3 after the return", x.getReg(0, 3), 33);
    }

    private static void completionInADeepFrame() {
        StackfulCoro x = Asm.started(1, 3, Asm.create(1, 5), Asm.call(2, 3, 1), Asm.ret(2),
                Asm.resume(4, 0, 0), Asm.ret(4),
                Asm.loadk(6, 11), Asm.yieldTo(6, 7));
        x.run(5);
        CHECK.due("in the called frame", x.getDepth(0), 2);
        CHECK.due("getReg(0, 4)", x.getReg(0, 4), 11);
        CHECK.due("getReg(0, 5)", x.getReg(0, 5), 1);
        x.run(1);
        CHECK.due("main's own r4", x.getReg(0, 4), 0);
        CHECK.due("main's own r2", x.getReg(0, 2), 11);
    }

    // Handle 1 is first resumed by main and then by handle 2: the answer goes to the latest resumer.
    private static void resumedByAnother() {
        StackfulCoro x = Asm.started(2, 1,
                Asm.create(1, 6), Asm.create(2, 9), Asm.resume(3, 1, 0), Asm.resume(3, 2, 1), Asm.out(3), Asm.ret(3),
                Asm.yieldTo(0, 1), Asm.running(5), Asm.ret(5),
                Asm.resume(2, 0, 0), Asm.out(2), Asm.loadk(2, 77), Asm.ret(2));
        x.run(6);
        CHECK.due("handle 1 is current", x.currentCo(), 1);
        CHECK.due("handle 2 is normal", x.coStatus(2), StackfulCoro.CO_NORMAL);
        CHECK.due("main is normal", x.coStatus(0), StackfulCoro.CO_NORMAL);
        CHECK.due("getLiveCount()", x.getLiveCount(), 2);
        x.run(2);
        CHECK.due("back in handle 2", x.currentCo(), 2);
        CHECK.due("coStatus(1)", x.coStatus(1), StackfulCoro.CO_DEAD);
        CHECK.due("getReg(2, 2)", x.getReg(2, 2), 1);
        CHECK.due("getReg(2, 3)", x.getReg(2, 3), 1);
        x.run(1000);
        CHECK.log("resumed by another", x, 1, 77);
    }

    private static void operandsAreReadBeforeCompletion() {
        StackfulCoro x = Asm.started(1, 1, Asm.create(1, 4), Asm.resume(1, 1, 1), Asm.jmp(2), Asm.jmp(3),
                Asm.add(0, 0, 0), Asm.ret(0));
        x.run(4);
        CHECK.due("r1 was handle, argument and target", x.getReg(0, 1), 2);
        CHECK.due("r2", x.getReg(0, 2), 1);
    }

    // The document names no end of the handles; where int ends, no handle may be reused or turn negative.
    private static void handlesRunOut() {
        StackfulCoro x = Asm.started(2, 1, Asm.create(1, 2), Asm.create(2, 2), Asm.ret(1));
        if (!setLastHandle(x, Integer.MAX_VALUE - 1)) {
            return;
        }
        x.run(1);
        CHECK.due("the last handle of all", x.getReg(0, 1), Integer.MAX_VALUE);
        CHECK.due("coStatus", x.coStatus(Integer.MAX_VALUE), StackfulCoro.CO_SUSPENDED);
        x.run(1);
        CHECK.ended("no handle is left", x, StackfulCoro.ST_FAILED, StackfulCoro.ERR_TOO_MANY);
        CHECK.due("getLastHandle()", x.getLastHandle(), Integer.MAX_VALUE);
    }

    // By calls alone the last handle is a minute away; how the class holds it is free, so it may not be found.
    private static boolean setLastHandle(StackfulCoro x, int handle) {
        try {
            java.lang.reflect.Field field = StackfulCoro.class.getDeclaredField("lastHandle");
            field.setAccessible(true);
            field.setInt(x, handle);
            return true;
        } catch (ReflectiveOperationException e) {
            System.out.println("no field lastHandle: the end of the handles is not tested");
            return false;
        }
    }
}
