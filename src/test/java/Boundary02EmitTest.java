/** Promise 2, sentence by sentence: what is just taken, what is just refused, and what a refusal leaves as it was. */
public final class Boundary02EmitTest {
    private static final Check CHECK = new Check();
    private static final int MIN = Integer.MIN_VALUE;
    private static final int MAX = Integer.MAX_VALUE;
    private static final int LAST_OP = StackfulCoro.OP_RUNNING;

    // Per opcode, the kinds of a, b and c: r is a register, @ an address, - any value.
    private static final String[] KINDS = {
        "r--", "rr-", "rrr", "rrr", "rrr", "@--", "r@-", "r@r", "r--", "r--",
        "r--", "r--", "r@-", "rrr", "rrr", "rr-", "rr-", "rr-", "r--"
    };

    public static void main(String[] args) {
        appendedAtCodeLength();
        onlyWhileLoading();
        fewerThanSixtyFour();
        opIsOneOfTheConstants();
        operandsInRange();
        anyConditionFails();
        otherwiseGrowsByOne();
        operandKinds();
        unnamedOperandsAreIgnored();
        addressBeyondTheCode();
        CHECK.end();
    }

    // An instruction at address i leaves i in r0, so a start at each address tells what stands there.
    private static StackfulCoro counting(int length) {
        StackfulCoro x = new StackfulCoro(1, 1);
        for (int i = 0; i < length; i++) {
            x.emit(StackfulCoro.OP_LOADK, 0, i, 0);
        }
        return x;
    }

    private static void standsAt(String what, StackfulCoro x, int address) {
        CHECK.due(what + ": start at " + address, x.start(address, -1), true);
        CHECK.due(what + ": run", x.run(1), 1);
        CHECK.due(what + ": what stands at " + address, x.getReg(0, 0), address);
    }

    private static void appendedAtCodeLength() {
        CHECK.sentence("`emit(op, a, b, c)` appends instruction (op,a,b,c) at address `getCodeLength()`.");
        for (int address = 0; address < 64; address++) {
            standsAt("full code", counting(64), address);
            standsAt("code of " + (address + 1), counting(address + 1), address);
        }
    }

    private static void onlyWhileLoading() {
        CHECK.sentence("the state is LOADING;");
        CHECK.due("emit right before start", Scene.loaded().emit(StackfulCoro.OP_OUT, 0, 0, 0), true);
        for (int ending = Scene.RETURNS; ending <= Scene.FAILS; ending++) {
            for (int steps = 0; steps <= Scene.STEPS; steps++) {
                StackfulCoro x = Scene.at(ending, steps);
                Snapshot before = Snapshot.of(x);
                for (int op = 0; op <= LAST_OP; op++) {
                    CHECK.due("emit(" + op + ", 0, 0, 0), " + Scene.name(ending, steps), x.emit(op, 0, 0, 0), false);
                }
                CHECK.unchanged(Scene.name(ending, steps), x, before);
                CHECK.sameFuture(Scene.name(ending, steps), x, Scene.at(ending, steps));
            }
        }
    }

    private static void fewerThanSixtyFour() {
        CHECK.sentence("fewer than 64 instructions are held;");
        CHECK.due("emit with 62 held", counting(62).emit(StackfulCoro.OP_OUT, 0, 0, 0), true);
        CHECK.due("emit with 63 held", counting(63).emit(StackfulCoro.OP_OUT, 0, 0, 0), true);
        for (int address = 0; address < 64; address++) {
            StackfulCoro x = counting(64);
            Snapshot before = Snapshot.of(x);
            for (int op = 0; op <= LAST_OP; op++) {
                CHECK.due("emit(" + op + ", 0, 0, 0) with 64 held", x.emit(op, 0, 0, 0), false);
            }
            CHECK.due("getCodeLength()", x.getCodeLength(), 64);
            CHECK.unchanged("refused with 64 held", x, before);
            standsAt("refused with 64 held", x, address);
        }
    }

    private static void opIsOneOfTheConstants() {
        CHECK.sentence("`op` is one of the `OP_` constants;");
        for (int op = 0; op <= LAST_OP; op++) {
            takenAfter(op, 0, 0, 0);
        }
        for (int op : new int[] {MIN, MIN + 1, -2, -1, LAST_OP + 1, LAST_OP + 2, 63, 64, 256, MAX}) {
            refusedBefore(op, 0, 0, 0);
        }
    }

    private static void takenAfter(int op, int a, int b, int c) {
        StackfulCoro x = counting(3);
        CHECK.due("emit(" + op + ", " + a + ", " + b + ", " + c + ")", x.emit(op, a, b, c), true);
        CHECK.due("getCodeLength()", x.getCodeLength(), 4);
        standsAt("before what was taken", x, 2);
    }

    // After the refusal the machine is loaded to its end, and must go on as one that was never asked.
    private static void refusedBefore(int op, int a, int b, int c) {
        String call = "emit(" + op + ", " + a + ", " + b + ", " + c + ")";
        StackfulCoro x = counting(3);
        Snapshot before = Snapshot.of(x);
        CHECK.due(call, x.emit(op, a, b, c), false);
        CHECK.unchanged(call, x, before);
        CHECK.due("emit after " + call, x.emit(StackfulCoro.OP_LOADK, 0, 3, 0), true);
        x.start(0, 0);
        StackfulCoro twin = counting(4);
        twin.start(0, 0);
        CHECK.sameFuture(call, x, twin);
    }

    private static void operandsInRange() {
        CHECK.sentence("its reg operands are in 0..7 and its addr operands are in 0..63.");
        for (int op = 0; op <= LAST_OP; op++) {
            for (int operand = 0; operand < 3; operand++) {
                char kind = KINDS[op].charAt(operand);
                int most = kind == 'r' ? 7 : 63;
                if (kind != '-') {
                    takenWith(op, operand, 0);
                    takenWith(op, operand, 1);
                    takenWith(op, operand, most - 1);
                    takenWith(op, operand, most);
                    for (int value : new int[] {MIN, -1, most + 1, most + 2, 256, MAX}) {
                        refusedWith(op, operand, value);
                    }
                }
            }
        }
    }

    private static void takenWith(int op, int operand, int value) {
        takenAfter(op, operand == 0 ? value : 0, operand == 1 ? value : 0, operand == 2 ? value : 0);
    }

    private static void refusedWith(int op, int operand, int value) {
        refusedBefore(op, operand == 0 ? value : 0, operand == 1 ? value : 0, operand == 2 ? value : 0);
    }

    private static void anyConditionFails() {
        CHECK.sentence("If any condition fails, the answer is false and nothing changes.");
        refusedBefore(-1, -1, -1, -1);
        refusedBefore(LAST_OP + 1, 8, 64, 8);
        refusedBefore(StackfulCoro.OP_CALL, 8, 64, 8);
        refusedBefore(StackfulCoro.OP_CALL, -1, -1, -1);
        StackfulCoro full = counting(64);
        Snapshot before = Snapshot.of(full);
        CHECK.due("full, and a wrong op", full.emit(LAST_OP + 1, 0, 0, 0), false);
        CHECK.due("full, and a wrong register", full.emit(StackfulCoro.OP_OUT, 8, 0, 0), false);
        CHECK.unchanged("full and wrong", full, before);
        full.start(63, 0);
        before = Snapshot.of(full);
        CHECK.due("running and full", full.emit(StackfulCoro.OP_OUT, 0, 0, 0), false);
        CHECK.due("running, full and wrong", full.emit(-1, -1, -1, -1), false);
        CHECK.unchanged("running, full and wrong", full, before);
    }

    private static void otherwiseGrowsByOne() {
        CHECK.sentence("Otherwise the instruction is appended, `getCodeLength()` grows by one, and the answer is true.");
        StackfulCoro x = new StackfulCoro(1, 1);
        for (int held = 0; held < 64; held++) {
            CHECK.due("getCodeLength()", x.getCodeLength(), held);
            CHECK.due("emit with " + held + " held", x.emit(held % (LAST_OP + 1), 0, 0, 0), true);
            CHECK.due("getCodeLength()", x.getCodeLength(), held + 1);
        }
    }

    private static void operandKinds() {
        kindsOf("LOADK: a=reg, b=any value.", StackfulCoro.OP_LOADK);
        kindsOf("MOVE: a, b=reg.", StackfulCoro.OP_MOVE);
        kindsOf("ADD, SUB, LT: a, b, c=reg.", StackfulCoro.OP_ADD, StackfulCoro.OP_SUB, StackfulCoro.OP_LT);
        kindsOf("JMP: a=addr.", StackfulCoro.OP_JMP);
        kindsOf("JZ: a=reg, b=addr.", StackfulCoro.OP_JZ);
        kindsOf("CALL: a=reg, b=addr, c=reg.", StackfulCoro.OP_CALL);
        kindsOf("RET, OUT, DEFER, ERROR, RUNNING: a=reg.", StackfulCoro.OP_RET, StackfulCoro.OP_OUT, StackfulCoro.OP_DEFER,
                StackfulCoro.OP_ERROR, StackfulCoro.OP_RUNNING);
        kindsOf("CREATE: a=reg, b=addr.", StackfulCoro.OP_CREATE);
        kindsOf("RESUME, WRESUME: a, b, c=reg.", StackfulCoro.OP_RESUME, StackfulCoro.OP_WRESUME);
        kindsOf("YIELD, STATUS, CLOSE: a, b=reg.", StackfulCoro.OP_YIELD, StackfulCoro.OP_STATUS, StackfulCoro.OP_CLOSE);
    }

    // Every combination of values around the bounds of registers and addresses.
    private static void kindsOf(String sentence, int... ops) {
        CHECK.sentence(sentence);
        int[] values = {MIN, -1, 0, 7, 8, 63, 64, MAX};
        for (int op : ops) {
            for (int a : values) {
                for (int b : values) {
                    for (int c : values) {
                        boolean taken = fits(op, 0, a) && fits(op, 1, b) && fits(op, 2, c);
                        StackfulCoro x = new StackfulCoro(1, 1);
                        CHECK.due("emit(" + op + ", " + a + ", " + b + ", " + c + ")", x.emit(op, a, b, c), taken);
                        CHECK.due("getCodeLength()", x.getCodeLength(), taken ? 1 : 0);
                    }
                }
            }
        }
    }

    private static boolean fits(int op, int operand, int value) {
        char kind = KINDS[op].charAt(operand);
        return kind == '-' || value >= 0 && value <= (kind == 'r' ? 7 : 63);
    }

    private static void unnamedOperandsAreIgnored() {
        CHECK.sentence("Unnamed operands are ignored and may hold any value.");
        for (int filler : new int[] {MIN, -1, 1, 7, 8, 63, 64, MAX}) {
            for (int ending = Scene.RETURNS; ending <= Scene.FAILS; ending++) {
                StackfulCoro x = filled(filler);
                StackfulCoro twin = filled(0);
                x.start(0, ending);
                twin.start(0, ending);
                CHECK.sameFuture("unnamed operands " + filler, x, twin);
            }
        }
    }

    // The scene's program, and before its RET the opcodes that it lacks, with the filler in every unnamed operand.
    private static StackfulCoro filled(int filler) {
        int[][] program = Scene.program();
        program[11] = Asm.jmp(program.length);
        StackfulCoro x = new StackfulCoro(Scene.MAX_CO, Scene.MAX_DEPTH);
        for (int[] i : program) {
            emitFilled(x, i, filler);
        }
        for (int[] i : new int[][] {Asm.move(2, 1), Asm.status(3, 2), Asm.close(4, 2), Asm.running(5), Asm.ret(7)}) {
            emitFilled(x, i, filler);
        }
        return x;
    }

    private static void emitFilled(StackfulCoro x, int[] i, int filler) {
        boolean ignoresB = KINDS[i[0]].charAt(1) == '-' && i[0] != StackfulCoro.OP_LOADK;
        boolean ignoresC = KINDS[i[0]].charAt(2) == '-';
        boolean taken = x.emit(i[0], i[1], ignoresB ? filler : i[2], ignoresC ? filler : i[3]);
        CHECK.due("emit of op " + i[0] + " with " + filler, taken, true);
    }

    private static void addressBeyondTheCode() {
        CHECK.sentence("An addr operand only needs to lie in 0..63. It need not be below the current code length.");
        for (int address : new int[] {0, 1, 2, 62, 63}) {
            StackfulCoro x = new StackfulCoro(1, 2);
            CHECK.due("JMP to " + address, x.emit(StackfulCoro.OP_JMP, address, 0, 0), true);
            CHECK.due("JZ to " + address, x.emit(StackfulCoro.OP_JZ, 0, address, 0), true);
            CHECK.due("CALL of " + address, x.emit(StackfulCoro.OP_CALL, 0, address, 0), true);
            CHECK.due("CREATE of " + address, x.emit(StackfulCoro.OP_CREATE, 0, address, 0), true);
            CHECK.due("getCodeLength()", x.getCodeLength(), 4);
        }
        StackfulCoro later = new StackfulCoro(1, 1);
        later.emit(StackfulCoro.OP_JMP, 2, 0, 0);
        later.emit(StackfulCoro.OP_ERROR, 0, 0, 0);
        later.emit(StackfulCoro.OP_RET, 0, 0, 0);
        later.start(0, 8);
        CHECK.due("run", later.run(9), 2);
        CHECK.ended("an address that was filled later", later, StackfulCoro.ST_DONE, 8);
    }
}
