/** Promise 4: the registers of an instruction are those of the current thread's top frame, in whichever frame it stands. */
public final class Boundary04TopFrameTest {
    private static final Check CHECK = new Check();
    private static final int LEVELS = 5;
    // Main's two frames, handle 1's two frames, and handle 2's frame.
    private static final int[] THREAD = {0, 0, 1, 1, 2};

    public static void main(String[] args) {
        CHECK.sentence("Below, r[x] is register x of the current thread's top frame.");
        for (int level = 0; level < LEVELS; level++) {
            writes(level);
            handles(level);
            jumps(level);
            leavesATrace(level);
            hands(level);
            ends(level);
        }
        CHECK.end();
    }

    private static int held(int level, int r) {
        return 1000 + 100 * level + r;
    }

    // Each level fills its registers and goes on to the next; at the last one all but the last of these have been done.
    private static StackfulCoro at(int level, int[]... last) {
        StackfulCoro x = new StackfulCoro(4, 3);
        for (int l = 0; l <= level; l++) {
            for (int r = 0; r < 8; r++) {
                Asm.emit(x, Asm.loadk(r, held(l, r)));
            }
            if (l < level && l % 2 == 0) {
                Asm.emit(x, Asm.call(6, x.getCodeLength() + 1, 0));
            } else if (l < level) {
                Asm.emit(x, Asm.create(7, x.getCodeLength() + 2));
                Asm.emit(x, Asm.resume(5, 7, 0));
            }
        }
        for (int[] i : last) {
            Asm.emit(x, i);
        }
        x.start(0, 0);
        x.run(x.getCodeLength() - 1);
        return x;
    }

    // A thread that waits has what it filled in, and in r7 the handle that it made.
    private static void othersStand(String what, StackfulCoro x, int level) {
        for (int waiting = 0; waiting < THREAD[level]; waiting++) {
            for (int r = 0; r < 8; r++) {
                int due = r == 7 ? waiting + 1 : held(2 * waiting + 1, r);
                CHECK.due(what + ": getReg(" + waiting + ", " + r + ")", x.getReg(waiting, r), due);
            }
        }
    }

    private static void written(int level, int value, int[]... last) {
        String what = "op " + last[last.length - 1][0] + " in level " + level;
        StackfulCoro x = at(level, last);
        int[] regs = new int[8];
        for (int r = 0; r < 8; r++) {
            regs[r] = x.getReg(THREAD[level], r);
        }
        CHECK.due(what + ": run", x.run(1), 1);
        regs[5] = value;
        CHECK.regs(what, x, THREAD[level], regs);
        othersStand(what, x, level);
    }

    private static void writes(int level) {
        written(level, 77, Asm.loadk(5, 77));
        written(level, held(level, 3), Asm.move(5, 3));
        written(level, held(level, 3) + held(level, 4), Asm.add(5, 3, 4));
        written(level, -1, Asm.sub(5, 3, 4));
        written(level, 1, Asm.lt(5, 3, 4));
        written(level, THREAD[level], Asm.running(5));
    }

    // In every other frame r3 is no handle that was given out.
    private static void handles(int level) {
        int next = THREAD[level] + 1;
        written(level, next, Asm.create(5, 0));
        written(level, StackfulCoro.CO_RUNNING, Asm.running(3), Asm.status(5, 3));
        written(level, StackfulCoro.CO_SUSPENDED, Asm.create(3, 0), Asm.status(5, 3));
        written(level, 1, Asm.create(3, 0), Asm.close(5, 3));
        StackfulCoro x = at(level, Asm.create(3, 0), Asm.resume(5, 3, 4));
        x.run(1);
        CHECK.due("RESUME in level " + level + ": currentCo()", x.currentCo(), next);
        CHECK.regs("RESUME in level " + level, x, next, held(level, 4), 0, 0, 0, 0, 0, 0, 0);
        StackfulCoro y = at(level, Asm.create(3, 0), Asm.close(5, 3), Asm.resume(5, 3, 4));
        y.run(1);
        CHECK.due("RESUME of a dead one in level " + level + ": r5", y.getReg(THREAD[level], 5), StackfulCoro.ERR_DEAD);
        CHECK.due("RESUME of a dead one in level " + level + ": r6", y.getReg(THREAD[level], 6), 0);
        othersStand("RESUME of a dead one in level " + level, y, level);
    }

    // Only this frame has a 0 in r3.
    private static void jumps(int level) {
        StackfulCoro x = at(level, Asm.loadk(3, 0), Asm.jz(3, 0));
        x.run(1);
        CHECK.due("JZ on 0 in level " + level, x.run(1), 1);
        CHECK.due("JZ on 0 in level " + level + ": r0 after it", x.getReg(THREAD[level], 0), held(0, 0));
        StackfulCoro y = at(level, Asm.jz(3, 0), Asm.loadk(0, 9));
        CHECK.due("JZ on another in level " + level, y.run(1), 1);
        CHECK.due("JZ on another in level " + level + ": r0 after it", y.getReg(THREAD[level], 0), 9);
    }

    private static void leavesATrace(int level) {
        StackfulCoro x = at(level, Asm.out(3));
        x.run(1);
        CHECK.log("OUT in level " + level, x, held(level, 3));
        StackfulCoro y = at(level, Asm.defer(3));
        y.run(1);
        for (int h = 0; h <= 2; h++) {
            CHECK.due("DEFER in level " + level + ": getPendingCleanups(" + h + ")", y.getPendingCleanups(h),
                    h == THREAD[level] ? held(level, 3) : 0);
        }
    }

    private static void hands(int level) {
        StackfulCoro x = at(level, Asm.call(5, 0, 4));
        x.run(1);
        CHECK.regs("CALL in level " + level, x, THREAD[level], held(level, 4), 0, 0, 0, 0, 0, 0, 0);
        if (THREAD[level] > 0) {
            StackfulCoro y = at(level, Asm.yieldTo(3, 4));
            y.run(1);
            CHECK.due("YIELD in level " + level, y.getReg(THREAD[level] - 1, 5), held(level, 3));
        }
    }

    // What ends a frame goes to the frame below it, to the resumer, or out of the program.
    private static void ends(int level) {
        StackfulCoro x = at(level, Asm.ret(3));
        x.run(1);
        if (level == 0) {
            CHECK.ended("RET in level 0", x, StackfulCoro.ST_DONE, held(0, 3));
        } else {
            CHECK.due("RET in level " + level, x.getReg(THREAD[level - 1], level % 2 == 1 ? 6 : 5), held(level, 3));
        }
        StackfulCoro y = at(level, Asm.error(3));
        y.run(1);
        if (THREAD[level] == 0) {
            CHECK.ended("ERROR in level " + level, y, StackfulCoro.ST_FAILED, held(level, 3));
        } else {
            CHECK.due("ERROR in level " + level, y.getReg(THREAD[level] - 1, 5), held(level, 3));
        }
    }
}
