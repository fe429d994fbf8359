/** Promise 3, sentence by sentence: the entries just taken and just refused, and what a refusal leaves as it was. */
public final class Boundary03StartTest {
    private static final Check CHECK = new Check();
    private static final int MIN = Integer.MIN_VALUE;
    private static final int MAX = Integer.MAX_VALUE;

    public static void main(String[] args) {
        onlyWhileLoading();
        atLeastOneInstruction();
        entryInsideTheCode();
        anyConditionFails();
        firstFrame();
        becomesRunning();
        neverAgain();
        CHECK.end();
    }

    private static StackfulCoro counting(int length) {
        StackfulCoro x = new StackfulCoro(1, 1);
        for (int i = 0; i < length; i++) {
            x.emit(StackfulCoro.OP_LOADK, 0, 100 + i, 0);
        }
        return x;
    }

    private static void onlyWhileLoading() {
        CHECK.sentence("the state is LOADING;");
        CHECK.due("start while loading", Scene.loaded().start(0, 0), true);
        for (int ending = Scene.RETURNS; ending <= Scene.FAILS; ending++) {
            for (int steps = 0; steps <= Scene.STEPS; steps++) {
                StackfulCoro x = Scene.at(ending, steps);
                Snapshot before = Snapshot.of(x);
                for (int entry : new int[] {-1, 0, 1, x.getCodeLength() - 1, x.getCodeLength()}) {
                    CHECK.due("start(" + entry + ", 9), " + Scene.name(ending, steps), x.start(entry, 9), false);
                }
                CHECK.unchanged(Scene.name(ending, steps), x, before);
                CHECK.sameFuture(Scene.name(ending, steps), x, Scene.at(ending, steps));
            }
        }
    }

    private static void atLeastOneInstruction() {
        CHECK.sentence("`getCodeLength() >= 1`;");
        for (int entry : new int[] {MIN, -1, 0, 1, 63, 64, MAX}) {
            refused(0, entry);
        }
        CHECK.due("start of one instruction", counting(1).start(0, 0), true);
    }

    private static void entryInsideTheCode() {
        CHECK.sentence("`0 <= entry < getCodeLength()`.");
        for (int length = 1; length <= 64; length++) {
            for (int entry : new int[] {MIN, -1, length, length + 1, MAX}) {
                refused(length, entry);
            }
            for (int entry = 0; entry < length; entry++) {
                StackfulCoro x = counting(length);
                CHECK.due("start(" + entry + ") of " + length, x.start(entry, 0), true);
                x.run(1);
                CHECK.due("the instruction at the entry", x.getReg(0, 0), 100 + entry);
            }
        }
    }

    // After the refusal the machine still takes code, if it has room, and starts as one that was never asked.
    private static void refused(int length, int entry) {
        String call = "start(" + entry + ", 7) of " + length;
        StackfulCoro x = counting(length);
        StackfulCoro twin = counting(length);
        Snapshot before = Snapshot.of(x);
        CHECK.due(call, x.start(entry, 7), false);
        CHECK.unchanged(call, x, before);
        CHECK.due("emit after " + call, x.emit(StackfulCoro.OP_RET, 0, 0, 0), twin.emit(StackfulCoro.OP_RET, 0, 0, 0));
        int last = twin.getCodeLength() - 1;
        CHECK.due("start after " + call, x.start(last, 3), twin.start(last, 3));
        CHECK.sameFuture("after " + call, x, twin);
    }

    private static void anyConditionFails() {
        CHECK.sentence("If any condition fails, the answer is false and nothing changes.");
        StackfulCoro empty = new StackfulCoro(4, 6);
        Snapshot before = Snapshot.of(empty);
        for (int i = 0; i < 10; i++) {
            CHECK.due("start of nothing", empty.start(i - 5, i), false);
            CHECK.unchanged("start of nothing", empty, before);
        }
        StackfulCoro running = Scene.at(Scene.RETURNS, 0);
        before = Snapshot.of(running);
        CHECK.due("running, and a wrong entry", running.start(-1, 5), false);
        CHECK.unchanged("running, and a wrong entry", running, before);
    }

    private static void firstFrame() {
        CHECK.sentence("Otherwise main gets one frame with r0=`arg`, r1..r7=0, pc=`entry` and no cleanups.");
        for (int arg : new int[] {MIN, -1, 0, 1, 64, MAX}) {
            for (int entry : new int[] {0, 63}) {
                StackfulCoro x = new StackfulCoro(1, 1);
                for (int i = 0; i < 64; i++) {
                    x.emit(StackfulCoro.OP_LOADK, 1, 100 + i, 0);
                }
                CHECK.due("start(" + entry + ", " + arg + ")", x.start(entry, arg), true);
                CHECK.due("getDepth(0)", x.getDepth(0), 1);
                CHECK.due("getPendingCleanups(0)", x.getPendingCleanups(0), 0);
                CHECK.regs("start", x, 0, arg, 0, 0, 0, 0, 0, 0, 0);
                x.run(1);
                CHECK.regs("the instruction at the entry", x, 0, arg, 100 + entry, 0, 0, 0, 0, 0, 0);
            }
        }
    }

    private static void becomesRunning() {
        CHECK.sentence("The state becomes RUNNING, main is current, and the answer is true.");
        StackfulCoro x = counting(1);
        CHECK.ended("before", x, StackfulCoro.ST_LOADING, 0);
        CHECK.due("start", x.start(0, 4), true);
        CHECK.ended("after", x, StackfulCoro.ST_RUNNING, 0);
        CHECK.due("currentCo()", x.currentCo(), 0);
        CHECK.due("coStatus(0)", x.coStatus(0), StackfulCoro.CO_RUNNING);
        CHECK.log("nothing logged", x);
        CHECK.due("getLastHandle()", x.getLastHandle(), 0);
    }

    private static void neverAgain() {
        CHECK.sentence("After a successful start, `emit` and `start` always answer false, because the state is no longer LOADING.");
        StackfulCoro x = Scene.loaded();
        CHECK.due("emit before start", x.emit(StackfulCoro.OP_OUT, 0, 0, 0), true);
        CHECK.due("start", x.start(0, Scene.FAILS), true);
        for (int steps = 0; steps <= Scene.STEPS + 3; steps++) {
            CHECK.due("emit after " + steps + " steps", x.emit(StackfulCoro.OP_OUT, 0, 0, 0), false);
            CHECK.due("start after " + steps + " steps", x.start(0, 0), false);
            x.run(1);
        }
        CHECK.ended("it went to its end", x, StackfulCoro.ST_FAILED, 70);
    }
}
