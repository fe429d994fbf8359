/** Promise 10, sentence by sentence: the code length between none and full, and that only a taken emit changes it. */
public final class Boundary10CodeLengthTest {
    private static final Check CHECK = new Check();
    private static final int MIN = Integer.MIN_VALUE;
    private static final int MAX = Integer.MAX_VALUE;

    public static void main(String[] args) {
        countsInstructions();
        onlyByASuccessfulEmit();
        changesNothing();
        CHECK.end();
    }

    private static void countsInstructions() {
        CHECK.sentence("`getCodeLength()` answers the number of instructions emitted (0..64).");
        for (int maxCo : new int[] {MIN, 1, 4, MAX}) {
            StackfulCoro x = new StackfulCoro(maxCo, maxCo);
            for (int emitted = 0; emitted <= 130; emitted++) {
                CHECK.due(emitted + " asked", x.getCodeLength(), emitted < 64 ? emitted : 64);
                CHECK.due("emit " + emitted, x.emit(StackfulCoro.OP_RUNNING, 7, MIN, MAX), emitted < 64);
            }
        }
        CHECK.due("the constant", StackfulCoro.MAX_CODE, 64);
    }

    private static void onlyByASuccessfulEmit() {
        CHECK.sentence("Only a successful `emit` changes it.");
        for (int length : new int[] {0, 1, 2, 63, 64}) {
            StackfulCoro x = new StackfulCoro(2, 2);
            for (int i = 0; i < length; i++) {
                x.emit(StackfulCoro.OP_OUT, 0, 0, 0);
            }
            x.emit(-1, 0, 0, 0);
            x.emit(19, 0, 0, 0);
            x.emit(StackfulCoro.OP_OUT, 8, 0, 0);
            x.emit(StackfulCoro.OP_OUT, -1, 0, 0);
            x.emit(StackfulCoro.OP_JMP, 64, 0, 0);
            CHECK.due("after refused emits", x.getCodeLength(), length);
            x.run(1000);
            CHECK.due("after a run that does nothing", x.getCodeLength(), length);
            x.start(length, 0);
            x.start(-1, 0);
            CHECK.due("after refused starts", x.getCodeLength(), length);
            x.start(0, 0);
            CHECK.due("after start", x.getCodeLength(), length);
            Snapshot.of(x);
            CHECK.due("after every getter", x.getCodeLength(), length);
        }
        for (int ending = Scene.RETURNS; ending <= Scene.FAILS; ending++) {
            StackfulCoro x = Scene.at(ending, 0);
            for (int steps = 0; steps <= Scene.STEPS + 2; steps++) {
                CHECK.due(Scene.name(ending, steps), x.getCodeLength(), Scene.program().length);
                x.emit(StackfulCoro.OP_OUT, 0, 0, 0);
                x.start(0, 0);
                CHECK.due("refused, " + Scene.name(ending, steps), x.getCodeLength(), Scene.program().length);
                x.run(1);
            }
        }
    }

    private static void changesNothing() {
        CHECK.sentence("The method changes nothing.");
        StackfulCoro loading = new StackfulCoro(Scene.MAX_CO, Scene.MAX_DEPTH);
        for (int[] i : Scene.program()) {
            int length = loading.getCodeLength();
            CHECK.due("again", loading.getCodeLength(), length);
            Asm.emit(loading, i);
        }
        loading.start(0, Scene.FAILS);
        CHECK.sameFuture("asked while loading", loading, Scene.at(Scene.FAILS, 0));
        for (int steps = 0; steps <= Scene.STEPS; steps++) {
            StackfulCoro x = Scene.at(Scene.FAILS, steps);
            int length = x.getCodeLength();
            CHECK.due("again", x.getCodeLength(), length);
            CHECK.sameFuture(Scene.name(Scene.FAILS, steps), x, Scene.at(Scene.FAILS, steps));
        }
    }
}
