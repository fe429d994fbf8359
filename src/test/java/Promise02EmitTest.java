/** Promise 2: which instructions are taken, in every state, and that a refused one changes nothing. */
public final class Promise02EmitTest {
    private static final Check CHECK = new Check();

    // Per opcode, the kinds of a, b and c: r is a register, @ an address, - any value.
    private static final String[] KINDS = {
        "r--", "rr-", "rrr", "rrr", "rrr", "@--", "r@-", "r@r", "r--", "r--",
        "r--", "r--", "r@-", "rrr", "rrr", "rr-", "rr-", "rr-", "r--"
    };
    private static final int[] VALUES = {Integer.MIN_VALUE, -1, 0, 1, 6, 7, 8, 62, 63, 64, 65, Integer.MAX_VALUE};

    public static void main(String[] args) {
        for (int op = 0; op < KINDS.length; op++) {
            operandsOf(op);
        }
        for (int op : new int[] {Integer.MIN_VALUE, -1, 19, 20, 64, Integer.MAX_VALUE}) {
            StackfulCoro x = new StackfulCoro(1, 1);
            CHECK.due("emit(" + op + ", 0, 0, 0)", x.emit(op, 0, 0, 0), false);
            CHECK.due("after op " + op + ": getCodeLength()", x.getCodeLength(), 0);
        }
        fullCode();
        refusedOnceStarted();
        refusedLeavesCodeAlone();
        addressBeyondCode();
        CHECK.end();
    }

    private static boolean fits(char kind, int value) {
        return kind == '-' || value >= 0 && value < (kind == 'r' ? 8 : 64);
    }

    private static void operandsOf(int op) {
        String kinds = KINDS[op];
        for (int a : VALUES) {
            for (int b : VALUES) {
                for (int c : VALUES) {
                    StackfulCoro x = new StackfulCoro(1, 1);
                    boolean taken = fits(kinds.charAt(0), a) && fits(kinds.charAt(1), b) && fits(kinds.charAt(2), c);
                    String call = "emit(" + op + ", " + a + ", " + b + ", " + c + ")";
                    CHECK.due(call, x.emit(op, a, b, c), taken);
                    CHECK.due(call + ": getCodeLength()", x.getCodeLength(), taken ? 1 : 0);
                }
            }
        }
    }

    private static void fullCode() {
        StackfulCoro x = new StackfulCoro(1, 1);
        for (int i = 0; i < 64; i++) {
            CHECK.due("emit " + i, x.emit(StackfulCoro.OP_LOADK, 0, i, 0), true);
            CHECK.due("emit " + i + ": getCodeLength()", x.getCodeLength(), i + 1);
        }
        CHECK.due("emit past 64", x.emit(StackfulCoro.OP_LOADK, 0, 64, 0), false);
        CHECK.due("emit past 64: getCodeLength()", x.getCodeLength(), 64);
        CHECK.due("start at 63", x.start(63, 0), true);
        x.run(1);
        CHECK.due("the last instruction is the 64th", x.getReg(0, 0), 63);
        x.run(1);
        CHECK.ended("after the 64th", x, StackfulCoro.ST_FAILED, StackfulCoro.ERR_BAD_PC);
    }

    private static void refusedOnceStarted() {
        StackfulCoro running = Asm.started(1, 1, Asm.jmp(0));
        StackfulCoro done = Asm.ran(1, 1, Asm.ret(0));
        StackfulCoro failed = Asm.ran(1, 1, Asm.error(0));
        for (StackfulCoro x : new StackfulCoro[] {running, done, failed}) {
            CHECK.due("emit in state " + x.getState(), x.emit(StackfulCoro.OP_OUT, 0, 0, 0), false);
            CHECK.due("getCodeLength() in state " + x.getState(), x.getCodeLength(), 1);
        }
    }

    private static void refusedLeavesCodeAlone() {
        StackfulCoro x = new StackfulCoro(1, 1);
        x.emit(StackfulCoro.OP_LOADK, 3, 41, 0);
        CHECK.due("emit bad register", x.emit(StackfulCoro.OP_LOADK, 8, 42, 0), false);
        CHECK.due("emit bad op", x.emit(99, 0, 0, 0), false);
        x.emit(StackfulCoro.OP_RET, 3, 0, 0);
        x.start(0, 0);
        CHECK.due("run", x.run(1000), 2);
        CHECK.ended("refused emits", x, StackfulCoro.ST_DONE, 41);
    }

    private static void addressBeyondCode() {
        StackfulCoro x = Asm.ran(1, 1, Asm.jmp(63));
        CHECK.ended("jump beyond the code", x, StackfulCoro.ST_FAILED, StackfulCoro.ERR_BAD_PC);
    }
}
