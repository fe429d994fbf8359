/** Promise 4, sentence by sentence: run, its step budget, and the step at and past the end of the code. */
public final class Boundary04RunTest {
    private static final Check CHECK = new Check();
    private static final int MIN = Integer.MIN_VALUE;
    private static final int MAX = Integer.MAX_VALUE;

    public static void main(String[] args) {
        stepsAreClamped();
        upToThatMany();
        answersTheStepsDone();
        zeroUnlessRunning();
        endingStepIsCounted();
        fallsOffTheCode();
        sentPastTheCode();
        badPcInTheCurrentThread();
        comesBackPastTheCode();
        everyInstructionIsOneStep();
        CHECK.end();
    }

    private static StackfulCoro counter() {
        StackfulCoro x = Asm.load(1, 1, Asm.add(1, 1, 0), Asm.jmp(0));
        x.start(0, 1);
        return x;
    }

    private static void stepsAreClamped() {
        CHECK.sentence("`run(steps)` clamps `steps` into 1..1000, so 0 or a negative value means 1.");
        int[][] clamps = {
            {MIN, 1}, {-1001, 1}, {-1000, 1}, {-1, 1}, {0, 1}, {1, 1}, {2, 2}, {999, 999}, {1000, 1000},
            {1001, 1000}, {1002, 1000}, {2000, 1000}, {MAX, 1000}
        };
        for (int[] c : clamps) {
            StackfulCoro x = counter();
            StackfulCoro twin = counter();
            CHECK.due("run(" + c[0] + ")", x.run(c[0]), c[1]);
            for (int i = 0; i < c[1]; i++) {
                twin.run(1);
            }
            CHECK.due("additions in " + c[1] + " steps", x.getReg(0, 1), (c[1] + 1) / 2);
            CHECK.sameFuture("run(" + c[0] + ")", x, twin);
        }
    }

    private static void upToThatMany() {
        CHECK.sentence("It then repeats up to that many times: if the state is not RUNNING, stop; otherwise do one STEP.");
        for (int ending = Scene.RETURNS; ending <= Scene.FAILS; ending++) {
            for (int steps = 1; steps <= Scene.STEPS + 2; steps++) {
                int due = steps < Scene.STEPS ? steps : Scene.STEPS;
                StackfulCoro x = Scene.at(ending, 0);
                CHECK.due("run(" + steps + ")", x.run(steps), due);
                CHECK.unchanged("run(" + steps + ")", x, Snapshot.of(Scene.at(ending, due)));
            }
        }
    }

    // It takes (3 - entry) + 3 * 332 + 2 steps: 1001, 1000 or 999.
    private static StackfulCoro countdown(int entry) {
        StackfulCoro x = Asm.load(1, 1, Asm.loadk(1, 1), Asm.loadk(1, 1), Asm.loadk(1, 1),
                Asm.jz(0, 6), Asm.sub(0, 0, 1), Asm.jmp(3), Asm.ret(1));
        x.start(entry, 332);
        return x;
    }

    private static void answersTheStepsDone() {
        CHECK.sentence("The answer is the number of steps done.");
        CHECK.due("a program of 999 steps", countdown(2).run(1000), 999);
        StackfulCoro whole = countdown(1);
        CHECK.due("a program of 1000 steps", whole.run(1000), 1000);
        CHECK.ended("a program of 1000 steps", whole, StackfulCoro.ST_DONE, 1);
        StackfulCoro longer = countdown(0);
        CHECK.due("a program of 1001 steps", longer.run(1001), 1000);
        CHECK.ended("a program of 1001 steps after 1000", longer, StackfulCoro.ST_RUNNING, 0);
        CHECK.due("its last step", longer.run(1001), 1);
        CHECK.ended("a program of 1001 steps", longer, StackfulCoro.ST_DONE, 1);
    }

    private static void zeroUnlessRunning() {
        CHECK.sentence("It is 0 if the state was not RUNNING, and in that case nothing changes.");
        stands("empty", new StackfulCoro(1, 1));
        stands("loaded", Scene.loaded());
        stands("done", Scene.at(Scene.RETURNS, Scene.STEPS));
        stands("failed", Scene.at(Scene.FAILS, Scene.STEPS));
        StackfulCoro loaded = Scene.loaded();
        loaded.run(1000);
        CHECK.due("emit after a run too early", loaded.emit(StackfulCoro.OP_OUT, 0, 0, 0), true);
        CHECK.due("start after a run too early", loaded.start(0, Scene.FAILS), true);
        StackfulCoro twin = Scene.loaded();
        twin.emit(StackfulCoro.OP_OUT, 0, 0, 0);
        twin.start(0, Scene.FAILS);
        CHECK.sameFuture("a run too early", loaded, twin);
        CHECK.due("run(1) in RUNNING", Scene.at(Scene.RETURNS, Scene.STEPS - 1).run(1), 1);
    }

    private static void stands(String what, StackfulCoro x) {
        Snapshot before = Snapshot.of(x);
        for (int steps : new int[] {MIN, -1, 0, 1, 2, 1000, 1001, MAX}) {
            CHECK.due(what + ": run(" + steps + ")", x.run(steps), 0);
            CHECK.unchanged(what + ": run(" + steps + ")", x, before);
        }
    }

    private static void endingStepIsCounted() {
        CHECK.sentence("A step that ends the program is counted.");
        endsInStep(2, StackfulCoro.ST_DONE, 5, Asm.loadk(0, 5), Asm.ret(0));
        endsInStep(2, StackfulCoro.ST_FAILED, 5, Asm.loadk(0, 5), Asm.error(0));
        endsInStep(2, StackfulCoro.ST_FAILED, StackfulCoro.ERR_BAD_PC, Asm.loadk(0, 5));
        endsInStep(2, StackfulCoro.ST_FAILED, StackfulCoro.ERR_STACK, Asm.call(0, 0, 0));
        endsInStep(5, StackfulCoro.ST_FAILED, StackfulCoro.ERR_CLEANUP_FULL,
                Asm.defer(0), Asm.defer(0), Asm.defer(0), Asm.defer(0), Asm.defer(0));
        endsInStep(2, StackfulCoro.ST_FAILED, StackfulCoro.ERR_TOO_MANY, Asm.create(0, 0), Asm.create(0, 0));
        endsInStep(2, StackfulCoro.ST_FAILED, StackfulCoro.ERR_DEAD, Asm.loadk(0, 5), Asm.wresume(0, 0, 0));
        endsInStep(2, StackfulCoro.ST_FAILED, StackfulCoro.ERR_NOT_SUSPENDED, Asm.loadk(1, 5), Asm.wresume(0, 0, 0));
        endsInStep(2, StackfulCoro.ST_FAILED, StackfulCoro.ERR_YIELD_MAIN, Asm.loadk(0, 5), Asm.yieldTo(0, 0));
        endsInStep(2, StackfulCoro.ST_FAILED, StackfulCoro.ERR_CLOSE_ACTIVE, Asm.loadk(1, 5), Asm.close(0, 0));
        endsInStep(3, StackfulCoro.ST_FAILED, 1, Asm.create(0, 2), Asm.wresume(0, 0, 0), Asm.error(0));
    }

    private static void endsInStep(int steps, int state, int result, int[]... program) {
        String what = "program ending in step " + steps + " with " + result;
        StackfulCoro whole = Asm.started(1, 2, program);
        CHECK.due(what + ": run(1000)", whole.run(1000), steps);
        CHECK.ended(what, whole, state, result);
        CHECK.due(what + ": run again", whole.run(1000), 0);
        StackfulCoro pieces = Asm.started(1, 2, program);
        CHECK.due(what + ": all but the last step", pieces.run(steps - 1), steps - 1);
        CHECK.ended(what + ", one step earlier", pieces, StackfulCoro.ST_RUNNING, 0);
        CHECK.due(what + ": the last step", pieces.run(1), 1);
        CHECK.ended(what, pieces, state, result);
    }

    private static StackfulCoro padded(int length, int[] first) {
        StackfulCoro x = new StackfulCoro(1, 2);
        Asm.emit(x, first);
        while (x.getCodeLength() < length) {
            x.emit(StackfulCoro.OP_LOADK, 7, x.getCodeLength(), 0);
        }
        return x;
    }

    private static void fallsOffTheCode() {
        CHECK.sentence("If the current thread's top frame has pc >= `getCodeLength()`, ERR_BAD_PC is raised in the current thread.");
        for (int length = 1; length <= 64; length++) {
            StackfulCoro x = padded(length, Asm.loadk(7, 0));
            x.start(length - 1, 0);
            CHECK.due("the last instruction of " + length, x.run(1), 1);
            CHECK.ended("the last instruction of " + length, x, StackfulCoro.ST_RUNNING, 0);
            CHECK.due("r7 by the last instruction", x.getReg(0, 7), length - 1);
            CHECK.due("past the last of " + length, x.run(1), 1);
            CHECK.ended("past the last of " + length, x, StackfulCoro.ST_FAILED, StackfulCoro.ERR_BAD_PC);
        }
    }

    // An instruction may send the pc anywhere; only the next step looks where it stands.
    private static void sentPastTheCode() {
        for (int length : new int[] {2, 3, 62, 63, 64}) {
            for (int address = 1; address < 64; address++) {
                sent("JMP", length, address, Asm.jmp(address));
                sent("JZ", length, address, Asm.jz(0, address));
                sent("CALL", length, address, Asm.call(0, address, 0));
            }
        }
    }

    private static void sent(String op, int length, int address, int[] first) {
        String what = op + " to " + address + " in code of " + length;
        StackfulCoro x = padded(length, first);
        x.start(0, 0);
        CHECK.due(what, x.run(1), 1);
        CHECK.ended(what + " is itself no fault", x, StackfulCoro.ST_RUNNING, 0);
        CHECK.due(what + ": the next step", x.run(1), 1);
        if (address < length) {
            CHECK.ended(what, x, StackfulCoro.ST_RUNNING, 0);
            CHECK.due(what + ": r7", x.getReg(0, 7), address);
        } else {
            CHECK.ended(what, x, StackfulCoro.ST_FAILED, StackfulCoro.ERR_BAD_PC);
        }
    }

    private static void badPcInTheCurrentThread() {
        for (int length : new int[] {4, 5, 63, 64}) {
            for (int address = 3; address < 64; address++) {
                StackfulCoro x = new StackfulCoro(1, 1);
                x.emit(StackfulCoro.OP_CREATE, 1, address, 0);
                x.emit(StackfulCoro.OP_RESUME, 2, 1, 0);
                x.emit(StackfulCoro.OP_JMP, 2, 0, 0);
                while (x.getCodeLength() < length) {
                    x.emit(StackfulCoro.OP_RUNNING, 7, 0, 0);
                }
                x.start(0, 0);
                x.run(3);
                boolean inside = address < length;
                String what = "body at " + address + " in code of " + length;
                CHECK.due(what + ": currentCo()", x.currentCo(), inside ? 1 : 0);
                CHECK.due(what + ": coStatus(1)", x.coStatus(1), inside ? StackfulCoro.CO_RUNNING : StackfulCoro.CO_DEAD);
                CHECK.due(what + ": getReg(1, 7)", x.getReg(1, 7), inside ? 1 : 0);
                CHECK.due(what + ": getReg(0, 2)", x.getReg(0, 2), inside ? 0 : StackfulCoro.ERR_BAD_PC);
                CHECK.ended(what + ": main", x, StackfulCoro.ST_RUNNING, 0);
            }
        }
    }

    // The last instruction is a CALL, a RESUME or a YIELD: its own step is right, and it comes back past the code.
    private static void comesBackPastTheCode() {
        StackfulCoro call = Asm.load(1, 2, Asm.ret(0), Asm.call(1, 0, 0));
        call.start(1, 6);
        CHECK.due("CALL and RET", call.run(2), 2);
        CHECK.due("r1 has the answer", call.getReg(0, 1), 6);
        CHECK.due("the step after", call.run(1), 1);
        CHECK.ended("CALL last", call, StackfulCoro.ST_FAILED, StackfulCoro.ERR_BAD_PC);
        StackfulCoro resume = Asm.load(1, 1, Asm.ret(0), Asm.create(1, 0), Asm.resume(2, 1, 1));
        resume.start(1, 6);
        CHECK.due("CREATE, RESUME and RET", resume.run(3), 3);
        CHECK.due("r3 tells success", resume.getReg(0, 3), 1);
        resume.run(1);
        CHECK.ended("RESUME last", resume, StackfulCoro.ST_FAILED, StackfulCoro.ERR_BAD_PC);
        StackfulCoro yields = Asm.started(1, 1, Asm.create(1, 4), Asm.resume(2, 1, 1), Asm.resume(2, 1, 1), Asm.ret(2),
                Asm.yieldTo(0, 0));
        yields.run(4);
        CHECK.due("resumed past the code", yields.currentCo(), 1);
        CHECK.due("then the fault and RET", yields.run(1000), 2);
        CHECK.ended("YIELD last", yields, StackfulCoro.ST_DONE, StackfulCoro.ERR_BAD_PC);
    }

    private static void everyInstructionIsOneStep() {
        CHECK.sentence("Every instruction, including RESUME and YIELD, is one step.");
        StackfulCoro x = Asm.started(1, 2, Asm.create(1, 4), Asm.resume(2, 1, 1), Asm.wresume(2, 1, 1), Asm.ret(2),
                Asm.yieldTo(0, 0), Asm.yieldTo(0, 0));
        int[] current = {0, 1, 0, 1, 0};
        for (int step = 0; step < current.length; step++) {
            CHECK.due("run(1)", x.run(1), 1);
            CHECK.due("currentCo() after step " + (step + 1), x.currentCo(), current[step]);
        }
        CHECK.due("the whole program", x.run(1000), 1);
        StackfulCoro all = Asm.started(1, 2, Asm.loadk(0, 1), Asm.move(1, 0), Asm.add(1, 1, 0), Asm.sub(1, 1, 0), Asm.lt(2, 0, 1),
                Asm.jmp(6), Asm.jz(2, 7), Asm.call(3, 15, 0), Asm.out(0), Asm.create(4, 15), Asm.status(5, 4), Asm.close(5, 4),
                Asm.running(5), Asm.resume(6, 4, 0), Asm.error(0), Asm.defer(0), Asm.ret(0));
        CHECK.due("every other instruction", all.run(1000), 17);
    }
}
