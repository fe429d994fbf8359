/** Promise 9: getLogCount and getLog. */
public final class Promise09LogTest {
    private static final Check CHECK = new Check();

    public static void main(String[] args) {
        StackfulCoro x = Asm.load(1, 1, Asm.loadk(1, 3), Asm.out(0), Asm.add(0, 0, 1), Asm.jmp(1));
        CHECK.due("loading: getLogCount()", x.getLogCount(), 0);
        x.start(0, -30);
        for (int held = 0; held <= 64; held++) {
            edges(x, held);
            x.run(held == 0 ? 2 : 3);
        }
        edges(x, 64);
        StackfulCoro done = Asm.ran(1, 1, Asm.loadk(1, 4), Asm.out(1), Asm.ret(0));
        CHECK.log("after the end", done, 4);
        CHECK.end();
    }

    private static void edges(StackfulCoro x, int held) {
        CHECK.due("getLogCount()", x.getLogCount(), held);
        for (int i = 0; i < held; i++) {
            CHECK.due("getLog(" + i + ") of " + held, x.getLog(i), -30 + 3 * i);
        }
        for (int i : new int[] {Integer.MIN_VALUE, -1, held, held + 1, 64, 65, Integer.MAX_VALUE}) {
            CHECK.due("getLog(" + i + ") of " + held, x.getLog(i), 0);
        }
    }
}
