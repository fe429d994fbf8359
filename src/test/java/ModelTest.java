/** Promises 1 and 3 to 10 on made-up programs: after every run each getter must answer as the Model does. */
public final class ModelTest {
    private static final int PROGRAMS = 20000;
    private static final int RUNS = 60;

    // How often each opcode is drawn; a plain draw would end most programs after a few steps.
    private static final int[] WEIGHTS = {8, 2, 3, 2, 1, 2, 2, 5, 3, 2, 5, 1, 6, 6, 5, 7, 2, 2, 2};

    private static long seed;

    public static void main(String[] args) {
        Check check = new Check();
        int[] ends = new int[4];
        for (int p = 0; p < PROGRAMS && check.wrongSoFar() == 0; p++) {
            seed = p;
            ends[compareOne("program " + p + ": ", check)]++;
        }
        System.out.println(ends[1] + " still running, " + ends[2] + " done, " + ends[3] + " failed");
        check.end();
    }

    // A fixed sequence for each program, so that a wrong answer can be seen again.
    private static int draw(int bound) {
        seed = seed * 6364136223846793005L + 1442695040888963407L;
        return (int) ((seed >>> 33) % bound);
    }

    private static int drawOp() {
        int total = 0;
        for (int w : WEIGHTS) {
            total += w;
        }
        int left = draw(total);
        int op = 0;
        while (left >= WEIGHTS[op]) {
            left -= WEIGHTS[op];
            op++;
        }
        return op;
    }

    private static int[] drawInstruction(int length) {
        int op = drawOp();
        int addr = draw(40) == 0 ? draw(64) : draw(length);
        // Few registers, so that handles written by one instruction are read by another.
        int[] i = {op, draw(4), draw(4), draw(4)};
        if (draw(8) == 0) {
            i[1] = draw(8);
        }
        if (op == StackfulCoro.OP_LOADK) {
            i[2] = draw(10) == 0 ? Integer.MAX_VALUE - draw(3) : draw(7) - 1;
        } else if (op == StackfulCoro.OP_JMP) {
            i[1] = addr;
        } else if (op == StackfulCoro.OP_JZ || op == StackfulCoro.OP_CALL || op == StackfulCoro.OP_CREATE) {
            i[2] = addr;
        }
        return i;
    }

    private static int compareOne(String name, Check check) {
        int maxCo = draw(7) - 1;
        int maxDepth = draw(9) - 1;
        StackfulCoro x = new StackfulCoro(maxCo, maxDepth);
        Model model = new Model(maxCo, maxDepth);
        int length = 4 + draw(61);
        for (int k = 0; k < length; k++) {
            int[] i = drawInstruction(length);
            check.due(name + "emit", x.emit(i[0], i[1], i[2], i[3]), true);
            model.emit(i);
        }
        int entry = draw(length);
        int arg = draw(5) - 1;
        check.due(name + "start", x.start(entry, arg), true);
        model.start(entry, arg);
        for (int k = 0; k < RUNS && x.getState() == StackfulCoro.ST_RUNNING; k++) {
            int steps = k < 40 ? 1 : draw(40) - 1;
            check.due(name + "run(" + steps + ")", x.run(steps), model.run(steps));
            model.compare(name + "after run " + k + ": ", x, check);
        }
        return x.getState();
    }
}
