/** Promise 4, sentence by sentence: the instructions that stay inside one frame, at the ends of their ranges. */
public final class Boundary04InstructionsTest {
    private static final Check CHECK = new Check();
    private static final int MIN = Integer.MIN_VALUE;
    private static final int MAX = Integer.MAX_VALUE;
    private static final int[] VALUES = {MIN, MIN + 1, -1, 0, 1, MAX - 1, MAX};

    public static void main(String[] args) {
        nextAddress();
        arithmeticWraps();
        loadk();
        move();
        add();
        sub();
        lt();
        jmp();
        jz();
        statusByMain();
        statusByCoroutine();
        running();
        CHECK.end();
    }

    // Everything but the instruction and its follower is ERROR, which would end the program.
    private static StackfulCoro alone(int address, int[] instruction) {
        StackfulCoro x = new StackfulCoro(1, 2);
        for (int i = 0; i < 64; i++) {
            Asm.emit(x, i == address ? instruction : i == address + 1 ? Asm.loadk(7, 77) : Asm.error(0));
        }
        x.start(address, 9);
        return x;
    }

    private static void nextAddress() {
        CHECK.sentence("Unless stated otherwise, pc becomes pc+1.");
        int[][] plain = {
            Asm.loadk(1, 5), Asm.move(1, 0), Asm.add(1, 0, 0), Asm.sub(1, 0, 0), Asm.lt(1, 0, 0), Asm.out(0), Asm.defer(0),
            Asm.create(1, 0), Asm.status(1, 0), Asm.close(1, 0), Asm.running(1)
        };
        for (int[] instruction : plain) {
            for (int address : new int[] {0, 1, 31, 61, 62}) {
                StackfulCoro x = alone(address, instruction);
                CHECK.due("op " + instruction[0] + " at " + address + ": run", x.run(2), 2);
                CHECK.due("op " + instruction[0] + " at " + address + ": r7", x.getReg(0, 7), 77);
            }
            StackfulCoro last = alone(63, instruction);
            last.run(1);
            CHECK.due("op " + instruction[0] + " at 63", last.getState(), StackfulCoro.ST_RUNNING);
            last.run(1);
            CHECK.ended("after op " + instruction[0] + " at 63", last, StackfulCoro.ST_FAILED, StackfulCoro.ERR_BAD_PC);
        }
    }

    private static int answer(int[] instruction, int p, int q) {
        StackfulCoro x = Asm.started(1, 1, Asm.loadk(1, p), Asm.loadk(2, q), instruction);
        x.run(3);
        CHECK.due("r1 stays", x.getReg(0, 1), p);
        CHECK.due("r2 stays", x.getReg(0, 2), q);
        return x.getReg(0, 3);
    }

    private static void arithmeticWraps() {
        CHECK.sentence("Arithmetic wraps as Java int.");
        CHECK.due("MAX + 0", answer(Asm.add(3, 1, 2), MAX, 0), MAX);
        CHECK.due("MAX + 1", answer(Asm.add(3, 1, 2), MAX, 1), MIN);
        CHECK.due("MAX + MAX", answer(Asm.add(3, 1, 2), MAX, MAX), -2);
        CHECK.due("MIN + -1", answer(Asm.add(3, 1, 2), MIN, -1), MAX);
        CHECK.due("MIN + MIN", answer(Asm.add(3, 1, 2), MIN, MIN), 0);
        CHECK.due("MIN - 0", answer(Asm.sub(3, 1, 2), MIN, 0), MIN);
        CHECK.due("MIN - 1", answer(Asm.sub(3, 1, 2), MIN, 1), MAX);
        CHECK.due("MAX - -1", answer(Asm.sub(3, 1, 2), MAX, -1), MIN);
        CHECK.due("0 - MIN", answer(Asm.sub(3, 1, 2), 0, MIN), MIN);
        CHECK.due("MIN - MAX", answer(Asm.sub(3, 1, 2), MIN, MAX), 1);
        CHECK.due("MAX - MIN", answer(Asm.sub(3, 1, 2), MAX, MIN), -1);
    }

    private static void loadk() {
        CHECK.sentence("LOADK: r[a]=b.");
        for (int a : new int[] {0, 1, 6, 7}) {
            for (int v : VALUES) {
                StackfulCoro x = Asm.started(1, 1, Asm.loadk(a, v));
                x.run(1);
                for (int r = 0; r < 8; r++) {
                    CHECK.due("LOADK r" + a + ": r" + r, x.getReg(0, r), r == a ? v : 0);
                }
            }
        }
    }

    private static void move() {
        CHECK.sentence("MOVE: r[a]=r[b].");
        for (int a = 0; a < 8; a++) {
            for (int b = 0; b < 8; b++) {
                StackfulCoro x = numbered(Asm.move(a, b));
                for (int r = 0; r < 8; r++) {
                    CHECK.due("MOVE r" + a + " r" + b + ": r" + r, x.getReg(0, r), r == a ? 1 << b : 1 << r);
                }
            }
        }
    }

    // Register r holds 1 << r, so a sum or a difference tells which registers it was made of.
    private static StackfulCoro numbered(int[] instruction) {
        StackfulCoro x = new StackfulCoro(1, 1);
        for (int r = 0; r < 8; r++) {
            x.emit(StackfulCoro.OP_LOADK, r, 1 << r, 0);
        }
        Asm.emit(x, instruction);
        x.start(0, 0);
        x.run(9);
        return x;
    }

    private static void add() {
        CHECK.sentence("ADD: r[a]=r[b]+r[c].");
        for (int[] i : ends()) {
            StackfulCoro x = numbered(Asm.add(i[0], i[1], i[2]));
            for (int r = 0; r < 8; r++) {
                CHECK.due("r" + r, x.getReg(0, r), r == i[0] ? (1 << i[1]) + (1 << i[2]) : 1 << r);
            }
        }
    }

    private static void sub() {
        CHECK.sentence("SUB: r[a]=r[b]-r[c].");
        for (int[] i : ends()) {
            StackfulCoro x = numbered(Asm.sub(i[0], i[1], i[2]));
            for (int r = 0; r < 8; r++) {
                CHECK.due("r" + r, x.getReg(0, r), r == i[0] ? (1 << i[1]) - (1 << i[2]) : 1 << r);
            }
        }
    }

    private static int[][] ends() {
        return new int[][] {{0, 0, 0}, {0, 0, 7}, {0, 7, 0}, {0, 7, 7}, {7, 0, 0}, {7, 0, 7}, {7, 7, 0}, {7, 7, 7}, {3, 4, 5}};
    }

    private static void lt() {
        CHECK.sentence("LT: r[a]=(r[b]<r[c])?1:0.");
        for (int p : VALUES) {
            for (int q : VALUES) {
                CHECK.due(p + " < " + q, answer(Asm.lt(3, 1, 2), p, q), p < q ? 1 : 0);
            }
        }
        for (int[] i : ends()) {
            StackfulCoro x = numbered(Asm.lt(i[0], i[1], i[2]));
            CHECK.due("LT into r" + i[0], x.getReg(0, i[0]), i[1] < i[2] ? 1 : 0);
        }
    }

    private static void jmp() {
        CHECK.sentence("JMP: pc=a.");
        StackfulCoro still = Asm.started(1, 1, Asm.jmp(0));
        CHECK.due("a jump to itself", still.run(1000), 1000);
        for (int from : new int[] {0, 31, 63}) {
            for (int to : new int[] {0, 1, 30, 31, 32, 62, 63}) {
                if (from != to) {
                    StackfulCoro x = jumping(from, to, Asm.jmp(to));
                    CHECK.due("JMP from " + from + " to " + to, x.getReg(0, 7), 77);
                    CHECK.due("one step", x.getState(), StackfulCoro.ST_RUNNING);
                }
            }
        }
    }

    private static StackfulCoro jumping(int from, int to, int[] jump) {
        StackfulCoro x = new StackfulCoro(1, 1);
        for (int i = 0; i < 64; i++) {
            Asm.emit(x, i == from ? jump : i == to ? Asm.loadk(7, 77) : Asm.error(0));
        }
        x.start(from, 0);
        x.run(2);
        return x;
    }

    private static void jz() {
        CHECK.sentence("JZ: if r[a]==0 then pc=b, else pc+1.");
        for (int a : new int[] {0, 7}) {
            for (int v : VALUES) {
                StackfulCoro x = Asm.ran(1, 1, Asm.loadk(a, v), Asm.jz(a, 4), Asm.loadk(1, 10), Asm.ret(1),
                        Asm.loadk(1, 20), Asm.ret(1));
                CHECK.ended("JZ on " + v, x, StackfulCoro.ST_DONE, v == 0 ? 20 : 10);
            }
        }
        for (int to : new int[] {0, 62, 63}) {
            StackfulCoro x = jumping(31, to, Asm.jz(1, to));
            CHECK.due("JZ to " + to, x.getReg(0, 7), 77);
        }
        StackfulCoro last = Asm.ran(1, 1, Asm.loadk(1, 1), Asm.jz(1, 0));
        CHECK.ended("JZ that is not taken, last in the code", last, StackfulCoro.ST_FAILED, StackfulCoro.ERR_BAD_PC);
    }

    // Handles: 1 is new, 2 has returned, 3 was closed, 4 is suspended at a YIELD; main asks.
    private static void statusByMain() {
        CHECK.sentence("STATUS: r[a] = the status of handle r[b], as `coStatus` would answer.");
        for (int h : new int[] {MIN, -1, 0, 1, 2, 3, 4, 5, 6, MAX}) {
            for (int a : new int[] {0, 7}) {
                StackfulCoro x = Asm.load(4, 1, Asm.create(1, 8), Asm.create(1, 8), Asm.create(2, 8), Asm.create(3, 9),
                        Asm.resume(4, 1, 1), Asm.close(4, 2), Asm.resume(4, 3, 3), Asm.status(a, 0),
                        Asm.ret(0), Asm.yieldTo(0, 0));
                x.start(0, h);
                x.run(9);
                int want = x.coStatus(h);
                int[] known = {StackfulCoro.CO_RUNNING, StackfulCoro.CO_SUSPENDED, StackfulCoro.CO_DEAD, StackfulCoro.CO_DEAD,
                    StackfulCoro.CO_SUSPENDED};
                CHECK.due("coStatus(" + h + ")", want, h >= 0 && h < known.length ? known[h] : StackfulCoro.CO_DEAD);
                x.run(1);
                CHECK.due("STATUS of " + h + " into r" + a, x.getReg(0, a), want);
            }
        }
    }

    // Main resumes 1, 1 resumes 2, and 2 asks; 3 is new.
    private static void statusByCoroutine() {
        int[] known = {StackfulCoro.CO_NORMAL, StackfulCoro.CO_NORMAL, StackfulCoro.CO_RUNNING, StackfulCoro.CO_SUSPENDED};
        for (int h : new int[] {MIN, -1, 0, 1, 2, 3, 4, 5, MAX}) {
            StackfulCoro x = Asm.load(4, 1, Asm.create(1, 2), Asm.resume(2, 1, 0),
                    Asm.create(1, 4), Asm.resume(2, 1, 0),
                    Asm.create(1, 4), Asm.status(7, 0));
            x.start(0, h);
            x.run(5);
            int want = x.coStatus(h);
            CHECK.due("coStatus(" + h + ")", want, h >= 0 && h < known.length ? known[h] : StackfulCoro.CO_DEAD);
            x.run(1);
            CHECK.due("STATUS of " + h, x.getReg(2, 7), want);
        }
    }

    private static void running() {
        CHECK.sentence("RUNNING: r[a] = the handle of the current thread.");
        for (int a : new int[] {0, 7}) {
            StackfulCoro x = Asm.load(1, 2, Asm.running(a), Asm.call(6, 5, 0), Asm.create(1, 5), Asm.resume(2, 1, 0), Asm.jmp(2),
                    Asm.running(a), Asm.ret(a));
            x.start(0, 55);
            x.run(1);
            CHECK.due("in main", x.getReg(0, a), 0);
            x.run(2);
            CHECK.due("in a called frame of main", x.getReg(0, a), 0);
            x.run(1);
            for (int h = 1; h <= 100; h++) {
                x.run(3);
                CHECK.due("in handle " + h, x.getReg(h, a), h);
                x.run(2);
            }
        }
    }
}
