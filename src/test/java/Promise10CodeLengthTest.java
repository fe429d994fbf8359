/** Promise 10: getCodeLength. */
public final class Promise10CodeLengthTest {
    private static final Check CHECK = new Check();

    public static void main(String[] args) {
        StackfulCoro x = new StackfulCoro(1, 1);
        CHECK.due("new", x.getCodeLength(), 0);
        x.emit(StackfulCoro.OP_JMP, 64, 0, 0);
        x.emit(-1, 0, 0, 0);
        x.start(0, 0);
        x.run(1);
        CHECK.due("nothing taken yet", x.getCodeLength(), 0);
        for (int i = 1; i <= 70; i++) {
            x.emit(StackfulCoro.OP_OUT, 0, 0, 0);
            CHECK.due("after emit " + i, x.getCodeLength(), i < 64 ? i : 64);
            x.emit(StackfulCoro.OP_OUT, 8, 0, 0);
            CHECK.due("after a refused emit", x.getCodeLength(), i < 64 ? i : 64);
        }
        x.start(0, 0);
        CHECK.due("started", x.getCodeLength(), 64);
        x.run(30);
        CHECK.due("running", x.getCodeLength(), 64);
        x.run(1000);
        CHECK.due("failed", x.getState(), StackfulCoro.ST_FAILED);
        x.emit(StackfulCoro.OP_OUT, 0, 0, 0);
        CHECK.due("ended", x.getCodeLength(), 64);
        CHECK.end();
    }
}
