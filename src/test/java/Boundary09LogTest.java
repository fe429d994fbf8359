/** Promise 9, sentence by sentence: the log between empty and full, and indexes around its ends. */
public final class Boundary09LogTest {
    private static final Check CHECK = new Check();
    private static final int MIN = Integer.MIN_VALUE;
    private static final int MAX = Integer.MAX_VALUE;

    public static void main(String[] args) {
        countsEntries();
        entriesByIndex();
        gettersChangeNothing();
        CHECK.end();
    }

    private static StackfulCoro logging(int entries) {
        StackfulCoro x = Asm.started(1, 1, Asm.loadk(1, 7), Asm.add(0, 0, 1), Asm.out(0), Asm.jmp(1));
        x.run(1 + 3 * entries);
        return x;
    }

    private static void countsEntries() {
        CHECK.sentence("`getLogCount()` answers the number of entries held by the log (0..64).");
        CHECK.due("empty machine", new StackfulCoro(1, 1).getLogCount(), 0);
        CHECK.due("loaded", Scene.loaded().getLogCount(), 0);
        StackfulCoro x = logging(0);
        for (int entries = 0; entries <= 130; entries++) {
            CHECK.due(entries + " logged", x.getLogCount(), entries < 64 ? entries : 64);
            x.run(3);
        }
        CHECK.due("the constant", StackfulCoro.LOG_CAP, 64);
    }

    private static void entriesByIndex() {
        CHECK.sentence("`getLog(i)` answers log entry i (0 = the oldest) if `0 <= i < getLogCount()`, and 0 otherwise.");
        for (int entries = 0; entries <= 66; entries++) {
            StackfulCoro x = logging(entries);
            int held = entries < 64 ? entries : 64;
            for (int i = 0; i < held; i++) {
                CHECK.due("getLog(" + i + ") of " + held, x.getLog(i), 7 * (i + 1));
            }
            for (int i : new int[] {MIN, MIN + 1, -64, -1, held, held + 1, 64, 65, 128, MAX - 1, MAX}) {
                CHECK.due("getLog(" + i + ") of " + held, x.getLog(i), 0);
            }
        }
        StackfulCoro ended = Scene.at(Scene.RETURNS, Scene.STEPS);
        CHECK.log("after the end", ended, 70, 1, 70, 70, 70, 70);
        CHECK.due("past its last entry", ended.getLog(6), 0);
    }

    private static void gettersChangeNothing() {
        CHECK.sentence("Neither method changes anything.");
        for (int steps = 0; steps <= Scene.STEPS; steps++) {
            StackfulCoro x = Scene.at(Scene.RETURNS, steps);
            for (int i : new int[] {MIN, -1, 0, 1, 2, 3, 63, 64, MAX}) {
                int entry = x.getLog(i);
                int count = x.getLogCount();
                CHECK.due("getLog(" + i + ") again", x.getLog(i), entry);
                CHECK.due("getLogCount() again", x.getLogCount(), count);
            }
            CHECK.sameFuture(Scene.name(Scene.RETURNS, steps), x, Scene.at(Scene.RETURNS, steps));
        }
    }
}
