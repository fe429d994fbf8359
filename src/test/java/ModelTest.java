/** Promises 1 and 3 to 10 on made-up programs: after every run each getter must answer as the Model does. */
public final class ModelTest {
    private static final int PROGRAMS = 20000;
    private static final int RUNS = 60;
    private static final int SUPERVISED = 8000;
    private static final int SUPERVISED_RUNS = 70;

    // Main catches what goes wrong in a worker, closes it, goes on with those that the worker made, and begins again.
    private static final int[][] SUPERVISOR = {
        Asm.loadk(7, 1), Asm.create(1, 14), Asm.resume(2, 1, 1), Asm.resume(2, 1, 3), Asm.out(2), Asm.close(3, 1),
        Asm.add(4, 1, 7), Asm.resume(5, 4, 2), Asm.close(3, 4), Asm.add(4, 4, 7), Asm.resume(5, 4, 2), Asm.resume(5, 4, 1), Asm.close(3, 4),
        Asm.jmp(1)
    };

    // How often each opcode is drawn; a plain draw would end most programs after a few steps.
    private static final int[] WEIGHTS = {8, 2, 3, 2, 1, 2, 2, 5, 3, 2, 5, 1, 6, 6, 5, 7, 2, 2, 2};

    private static long seed;

    public static void main(String[] args) {
        Check check = new Check();
        int[] ends = new int[4];
        for (int p = 0; p < PROGRAMS && check.wrongSoFar() == 0; p++) {
            seed = p;
            ends[compareOne("program " + p + ": ", check)]++;
        }
        for (int p = 0; p < SUPERVISED && check.wrongSoFar() == 0; p++) {
            seed = -1 - p;
            ends[compareSupervised("supervised program " + p + ": ", check)]++;
        }
        System.out.println(ends[1] + " still running, " + ends[2] + " done, " + ends[3] + " failed");
        check.end();
    }

    // A fixed sequence for each program, so that a wrong answer can be seen again.
    private static int draw(int bound) {
        seed = seed * 6364136223846793005L + 1442695040888963407L;
        return (int) ((seed >>> 33) % bound);
    }

    private static int drawOp() {
        int total = 0;
        for (int w : WEIGHTS) {
            total += w;
        }
        int left = draw(total);
        int op = 0;
        while (left >= WEIGHTS[op]) {
            left -= WEIGHTS[op];
            op++;
        }
        return op;
    }

    private static int[] drawInstruction(int first, int length) {
        int op = drawOp();
        int addr = draw(40) == 0 ? draw(64) : first + draw(length - first);
        // Few registers, so that handles written by one instruction are read by another.
        int[] i = {op, draw(4), draw(4), draw(4)};
        if (draw(8) == 0) {
            i[1] = draw(8);
        }
        if (op == StackfulCoro.OP_LOADK) {
            i[2] = draw(10) == 0 ? Integer.MAX_VALUE - draw(3) : draw(7) - 1;
        } else if (op == StackfulCoro.OP_JMP) {
            i[1] = addr;
        } else if (op == StackfulCoro.OP_JZ || op == StackfulCoro.OP_CALL || op == StackfulCoro.OP_CREATE) {
            i[2] = addr;
        }
        return i;
    }

    private static int compareOne(String name, Check check) {
        int maxCo = draw(7) - 1;
        int maxDepth = draw(9) - 1;
        StackfulCoro x = new StackfulCoro(maxCo, maxDepth);
        Model model = new Model(maxCo, maxDepth);
        int length = 4 + draw(61);
        for (int k = 0; k < length; k++) {
            emit(name, x, model, drawInstruction(0, length), check);
        }
        return compareRuns(name, x, model, draw(length), draw(5) - 1, RUNS, check);
    }

    private static int compareSupervised(String name, Check check) {
        int maxCo = 2 + draw(3);
        int maxDepth = 1 + draw(6);
        StackfulCoro x = new StackfulCoro(maxCo, maxDepth);
        Model model = new Model(maxCo, maxDepth);
        for (int[] i : SUPERVISOR) {
            emit(name, x, model, i, check);
        }
        int length = SUPERVISOR.length + 6 + draw(45);
        for (int k = SUPERVISOR.length; k < length; k++) {
            emit(name, x, model, drawInstruction(SUPERVISOR.length, length), check);
        }
        return compareRuns(name, x, model, 0, 0, SUPERVISED_RUNS, check);
    }

    private static void emit(String name, StackfulCoro x, Model model, int[] i, Check check) {
        check.due(name + "emit", x.emit(i[0], i[1], i[2], i[3]), true);
        model.emit(i);
    }

    private static int compareRuns(String name, StackfulCoro x, Model model, int entry, int arg, int runs, Check check) {
        check.due(name + "start", x.start(entry, arg), true);
        model.start(entry, arg);
        for (int k = 0; k < runs && x.getState() == StackfulCoro.ST_RUNNING && check.wrongSoFar() == 0; k++) {
            int steps = k < 40 ? 1 : draw(40) - 1;
            check.due(name + "run(" + steps + ")", x.run(steps), model.run(steps));
            model.compare(name + "after run " + k + ": ", x, check);
        }
        return x.getState();
    }
}
