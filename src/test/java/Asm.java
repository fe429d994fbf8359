/** Instructions by name, and machines loaded with them; an operand that is ignored is filled with IGNORED. */
final class Asm {
    static final int IGNORED = -987654;

    private Asm() {
    }

    static int[] loadk(int a, int value) { return new int[] {StackfulCoro.OP_LOADK, a, value, IGNORED}; }
    static int[] move(int a, int b) { return new int[] {StackfulCoro.OP_MOVE, a, b, IGNORED}; }
    static int[] add(int a, int b, int c) { return new int[] {StackfulCoro.OP_ADD, a, b, c}; }
    static int[] sub(int a, int b, int c) { return new int[] {StackfulCoro.OP_SUB, a, b, c}; }
    static int[] lt(int a, int b, int c) { return new int[] {StackfulCoro.OP_LT, a, b, c}; }
    static int[] jmp(int address) { return new int[] {StackfulCoro.OP_JMP, address, IGNORED, IGNORED}; }
    static int[] jz(int a, int address) { return new int[] {StackfulCoro.OP_JZ, a, address, IGNORED}; }
    static int[] call(int a, int address, int c) { return new int[] {StackfulCoro.OP_CALL, a, address, c}; }
    static int[] ret(int a) { return new int[] {StackfulCoro.OP_RET, a, IGNORED, IGNORED}; }
    static int[] out(int a) { return new int[] {StackfulCoro.OP_OUT, a, IGNORED, IGNORED}; }
    static int[] defer(int a) { return new int[] {StackfulCoro.OP_DEFER, a, IGNORED, IGNORED}; }
    static int[] error(int a) { return new int[] {StackfulCoro.OP_ERROR, a, IGNORED, IGNORED}; }
    static int[] create(int a, int address) { return new int[] {StackfulCoro.OP_CREATE, a, address, IGNORED}; }
    static int[] resume(int a, int b, int c) { return new int[] {StackfulCoro.OP_RESUME, a, b, c}; }
    static int[] wresume(int a, int b, int c) { return new int[] {StackfulCoro.OP_WRESUME, a, b, c}; }
    static int[] yieldTo(int a, int b) { return new int[] {StackfulCoro.OP_YIELD, a, b, IGNORED}; }
    static int[] status(int a, int b) { return new int[] {StackfulCoro.OP_STATUS, a, b, IGNORED}; }
    static int[] close(int a, int b) { return new int[] {StackfulCoro.OP_CLOSE, a, b, IGNORED}; }
    static int[] running(int a) { return new int[] {StackfulCoro.OP_RUNNING, a, IGNORED, IGNORED}; }

    static void emit(StackfulCoro x, int[] i) {
        if (!x.emit(i[0], i[1], i[2], i[3])) {
            throw new IllegalStateException("not emitted: op " + i[0] + " at " + x.getCodeLength());
        }
    }

    static StackfulCoro load(int maxCo, int maxDepth, int[]... program) {
        StackfulCoro x = new StackfulCoro(maxCo, maxDepth);
        for (int[] i : program) {
            emit(x, i);
        }
        return x;
    }

    static StackfulCoro started(int maxCo, int maxDepth, int[]... program) {
        StackfulCoro x = load(maxCo, maxDepth, program);
        if (!x.start(0, 0)) {
            throw new IllegalStateException("not started");
        }
        return x;
    }

    static StackfulCoro ran(int maxCo, int maxDepth, int[]... program) {
        StackfulCoro x = started(maxCo, maxDepth, program);
        x.run(1000);
        return x;
    }
}
