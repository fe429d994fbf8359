/** Promise 6: coStatus and currentCo. */
public final class Promise06StatusTest {
    private static final Check CHECK = new Check();
    private static final int SUSPENDED = StackfulCoro.CO_SUSPENDED;
    private static final int RUNNING = StackfulCoro.CO_RUNNING;
    private static final int NORMAL = StackfulCoro.CO_NORMAL;
    private static final int DEAD = StackfulCoro.CO_DEAD;

    public static void main(String[] args) {
        lifeOfThreeThreads();
        deadIsFinal();
        CHECK.end();
    }

    private static void at(String when, StackfulCoro x, int current, int main, int one, int two) {
        CHECK.due(when + ": currentCo()", x.currentCo(), current);
        CHECK.due(when + ": coStatus(0)", x.coStatus(0), main);
        CHECK.due(when + ": coStatus(1)", x.coStatus(1), one);
        CHECK.due(when + ": coStatus(2)", x.coStatus(2), two);
        for (int h : new int[] {Integer.MIN_VALUE, -2, -1, 3, 4, 5, 64, Integer.MAX_VALUE}) {
            CHECK.due(when + ": coStatus(" + h + ")", x.coStatus(h), DEAD);
        }
    }

    private static void lifeOfThreeThreads() {
        StackfulCoro x = Asm.load(2, 1,
                Asm.create(1, 4), Asm.resume(2, 1, 0), Asm.resume(2, 1, 0), Asm.ret(2),
                Asm.create(1, 8), Asm.resume(2, 1, 0), Asm.yieldTo(2, 2), Asm.ret(2),
                Asm.yieldTo(0, 0));
        at("loading", x, 0, DEAD, DEAD, DEAD);
        x.start(0, 0);
        at("started", x, 0, RUNNING, DEAD, DEAD);
        x.run(1);
        at("created 1", x, 0, RUNNING, SUSPENDED, DEAD);
        x.run(1);
        at("resumed 1", x, 1, NORMAL, RUNNING, DEAD);
        x.run(1);
        at("1 created 2", x, 1, NORMAL, RUNNING, SUSPENDED);
        x.run(1);
        at("1 resumed 2", x, 2, NORMAL, NORMAL, RUNNING);
        x.run(1);
        at("2 yielded", x, 1, NORMAL, RUNNING, SUSPENDED);
        x.run(1);
        at("1 yielded", x, 0, RUNNING, SUSPENDED, SUSPENDED);
        x.run(1);
        at("resumed 1 again", x, 1, NORMAL, RUNNING, SUSPENDED);
        x.run(1);
        at("1 returned", x, 0, RUNNING, DEAD, SUSPENDED);
        x.run(1);
        at("main returned", x, 0, DEAD, DEAD, SUSPENDED);
    }

    private static void deadIsFinal() {
        StackfulCoro x = Asm.started(1, 1,
                Asm.loadk(5, 1), Asm.create(1, 8), Asm.resume(2, 1, 0), Asm.resume(3, 5, 0), Asm.out(3), Asm.out(4), Asm.jmp(1),
                Asm.ret(0), Asm.error(0));
        x.run(1);
        for (int round = 1; round <= 100; round++) {
            x.run(2);
            CHECK.due("currentCo() in round " + round, x.currentCo(), round);
            CHECK.due("its status in round " + round, x.coStatus(round), RUNNING);
            x.run(5);
            for (int h = 1; h <= x.getLastHandle(); h++) {
                CHECK.due("handle " + h + " in round " + round, x.coStatus(h), DEAD);
            }
        }
        for (int i = 0; i < 64; i++) {
            CHECK.due("resume of the dead handle 1", x.getLog(i), i % 2 == 0 ? StackfulCoro.ERR_DEAD : 0);
        }
    }
}
