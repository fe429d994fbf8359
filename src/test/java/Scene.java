/**
 * One program that passes through every kind of state, stopped after a number of steps: calls, cleanups pending,
 * coroutines new, suspended deep inside, normal, running and dead, and an end in DONE or FAILED.
 */
final class Scene {
    static final int RETURNS = 0;
    static final int FAILS = 1;
    /** The steps that the program takes to its end. */
    static final int STEPS = 25;
    static final int MAX_CO = 3;
    static final int MAX_DEPTH = 3;

    private Scene() {
    }

    static int[][] program() {
        return new int[][] {
            Asm.loadk(7, 70), Asm.defer(7), Asm.create(1, 12), Asm.resume(2, 1, 7),
            Asm.create(3, 19), Asm.create(4, 12), Asm.resume(5, 3, 1), Asm.out(5),
            Asm.call(6, 23, 7), Asm.jz(0, 11), Asm.error(7), Asm.ret(7),
            Asm.loadk(1, 30), Asm.defer(1), Asm.call(2, 16, 0), Asm.ret(2),
            Asm.defer(0), Asm.yieldTo(0, 3), Asm.jmp(17),
            Asm.defer(0), Asm.resume(1, 0, 0), Asm.out(1), Asm.ret(1),
            Asm.defer(0), Asm.out(0), Asm.ret(0)
        };
    }

    static StackfulCoro loaded() {
        return Asm.load(MAX_CO, MAX_DEPTH, program());
    }

    /** The argument says how the program ends. */
    static StackfulCoro at(int ending, int steps) {
        StackfulCoro x = loaded();
        x.start(0, ending);
        for (int i = 0; i < steps; i++) {
            x.run(1);
        }
        return x;
    }

    /** The ways to die: a coroutine's last instruction, and what its resumer, with the handle in r1, does after it. */
    static int[][][] deaths() {
        int[] nothing = Asm.move(7, 7);
        return new int[][][] {
            {Asm.ret(0), nothing}, {Asm.error(0), nothing}, {Asm.jmp(63), nothing}, {Asm.yieldTo(0, 0), Asm.close(7, 1)}
        };
    }

    static String name(int ending, int steps) {
        return (ending == RETURNS ? "returning" : "failing") + " program after " + steps + " steps";
    }
}
