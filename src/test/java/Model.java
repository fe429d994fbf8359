import java.util.ArrayList;
import java.util.HashMap;
import java.util.List;
import java.util.Map;

/** The document once more, written with objects and recursion, for ModelTest to compare the class with. */
final class Model {
    private static final class Frame {
        final int[] r = new int[8];
        final List<Integer> tags = new ArrayList<>();
        int pc;
        int answerReg;
    }

    private static final class Fiber {
        final List<Frame> frames = new ArrayList<>();
        final int handle;
        final int body;
        int status;
        Fiber resumer;
        int[] resumedBy;
        int yieldReg;

        Fiber(int handle, int body, int status) {
            this.handle = handle;
            this.body = body;
            this.status = status;
        }

        Frame top() {
            return frames.get(frames.size() - 1);
        }

        Frame push(int pc, int arg) {
            Frame f = new Frame();
            f.pc = pc;
            f.r[0] = arg;
            frames.add(f);
            return f;
        }
    }

    private final int maxCo;
    private final int maxDepth;
    private final List<int[]> code = new ArrayList<>();
    private final List<Integer> log = new ArrayList<>();
    private final Map<Integer, Fiber> fibers = new HashMap<>();
    private final Fiber main = new Fiber(0, 0, StackfulCoro.CO_DEAD);
    private Fiber current = main;
    private int state = StackfulCoro.ST_LOADING;
    private int result;
    private int last;

    Model(int maxCo, int maxDepth) {
        this.maxCo = Math.min(4, Math.max(1, maxCo));
        this.maxDepth = Math.min(6, Math.max(1, maxDepth));
        fibers.put(0, main);
    }

    /** Takes only instructions that are known to be right: Promise02EmitTest looks at the others. */
    void emit(int... instruction) {
        code.add(instruction);
    }

    void start(int entry, int arg) {
        main.push(entry, arg);
        main.status = StackfulCoro.CO_RUNNING;
        state = StackfulCoro.ST_RUNNING;
    }

    int run(int steps) {
        int done = 0;
        while (done < Math.min(1000, Math.max(1, steps)) && state == StackfulCoro.ST_RUNNING) {
            step();
            done++;
        }
        return done;
    }

    private void step() {
        Fiber t = current;
        Frame f = t.top();
        if (f.pc >= code.size()) {
            raise(t, StackfulCoro.ERR_BAD_PC);
            return;
        }
        int[] i = code.get(f.pc);
        int next = f.pc + 1;
        f.pc = next;
        switch (i[0]) {
            case StackfulCoro.OP_LOADK -> f.r[i[1]] = i[2];
            case StackfulCoro.OP_MOVE -> f.r[i[1]] = f.r[i[2]];
            case StackfulCoro.OP_ADD -> f.r[i[1]] = f.r[i[2]] + f.r[i[3]];
            case StackfulCoro.OP_SUB -> f.r[i[1]] = f.r[i[2]] - f.r[i[3]];
            case StackfulCoro.OP_LT -> f.r[i[1]] = f.r[i[2]] < f.r[i[3]] ? 1 : 0;
            case StackfulCoro.OP_JMP -> f.pc = i[1];
            case StackfulCoro.OP_JZ -> f.pc = f.r[i[1]] == 0 ? i[2] : next;
            case StackfulCoro.OP_CALL -> call(t, i);
            case StackfulCoro.OP_RET -> ret(t, f.r[i[1]]);
            case StackfulCoro.OP_OUT -> append(f.r[i[1]]);
            case StackfulCoro.OP_DEFER -> defer(t, f.r[i[1]]);
            case StackfulCoro.OP_ERROR -> raise(t, f.r[i[1]]);
            case StackfulCoro.OP_CREATE -> create(t, i);
            case StackfulCoro.OP_RESUME, StackfulCoro.OP_WRESUME -> resume(t, i);
            case StackfulCoro.OP_YIELD -> yieldFrom(t, i);
            case StackfulCoro.OP_STATUS -> f.r[i[1]] = status(f.r[i[2]]);
            case StackfulCoro.OP_CLOSE -> close(t, i);
            case StackfulCoro.OP_RUNNING -> f.r[i[1]] = t.handle;
            default -> throw new IllegalStateException("op " + i[0]);
        }
    }

    private void call(Fiber t, int[] i) {
        if (t.frames.size() == maxDepth) {
            raise(t, StackfulCoro.ERR_STACK);
        } else {
            t.push(i[2], t.top().r[i[3]]).answerReg = i[1];
        }
    }

    private void ret(Fiber t, int v) {
        int answerReg = t.top().answerReg;
        pop(t);
        if (!t.frames.isEmpty()) {
            t.top().r[answerReg] = v;
        } else if (t == main) {
            end(StackfulCoro.ST_DONE, v);
        } else {
            t.status = StackfulCoro.CO_DEAD;
            complete(t.resumer, t.resumer.resumedBy, true, v);
        }
    }

    private void defer(Fiber t, int tag) {
        if (t.top().tags.size() == 4) {
            raise(t, StackfulCoro.ERR_CLEANUP_FULL);
        } else {
            t.top().tags.add(tag);
        }
    }

    private void create(Fiber t, int[] i) {
        if (liveCount() == maxCo) {
            raise(t, StackfulCoro.ERR_TOO_MANY);
        } else {
            last++;
            fibers.put(last, new Fiber(last, i[2], StackfulCoro.CO_SUSPENDED));
            t.top().r[i[1]] = last;
        }
    }

    private void resume(Fiber t, int[] i) {
        int h = t.top().r[i[2]];
        int w = t.top().r[i[3]];
        if (status(h) == StackfulCoro.CO_DEAD) {
            complete(t, i, false, StackfulCoro.ERR_DEAD);
        } else if (status(h) != StackfulCoro.CO_SUSPENDED) {
            complete(t, i, false, StackfulCoro.ERR_NOT_SUSPENDED);
        } else {
            Fiber co = fibers.get(h);
            t.status = StackfulCoro.CO_NORMAL;
            t.resumedBy = i;
            co.resumer = t;
            co.status = StackfulCoro.CO_RUNNING;
            current = co;
            if (co.frames.isEmpty()) {
                co.push(co.body, w);
            } else {
                co.top().r[co.yieldReg] = w;
            }
        }
    }

    private void yieldFrom(Fiber t, int[] i) {
        if (t == main) {
            raise(t, StackfulCoro.ERR_YIELD_MAIN);
        } else {
            t.status = StackfulCoro.CO_SUSPENDED;
            t.yieldReg = i[2];
            complete(t.resumer, t.resumer.resumedBy, true, t.top().r[i[1]]);
        }
    }

    private void close(Fiber t, int[] i) {
        int h = t.top().r[i[2]];
        int status = status(h);
        if (status == StackfulCoro.CO_RUNNING || status == StackfulCoro.CO_NORMAL) {
            raise(t, StackfulCoro.ERR_CLOSE_ACTIVE);
        } else if (status == StackfulCoro.CO_DEAD) {
            t.top().r[i[1]] = 0;
        } else {
            unwind(fibers.get(h));
            fibers.get(h).status = StackfulCoro.CO_DEAD;
            t.top().r[i[1]] = 1;
        }
    }

    private void complete(Fiber r, int[] i, boolean success, int v) {
        r.status = StackfulCoro.CO_RUNNING;
        current = r;
        if (i[0] == StackfulCoro.OP_RESUME) {
            r.top().r[i[1]] = v;
            r.top().r[(i[1] + 1) % 8] = success ? 1 : 0;
        } else if (success) {
            r.top().r[i[1]] = v;
        } else {
            raise(r, v);
        }
    }

    private void raise(Fiber t, int e) {
        unwind(t);
        if (t == main) {
            end(StackfulCoro.ST_FAILED, e);
        } else {
            t.status = StackfulCoro.CO_DEAD;
            complete(t.resumer, t.resumer.resumedBy, false, e);
        }
    }

    private void unwind(Fiber t) {
        while (!t.frames.isEmpty()) {
            pop(t);
        }
    }

    private void pop(Fiber t) {
        List<Integer> tags = t.top().tags;
        for (int k = tags.size() - 1; k >= 0; k--) {
            append(tags.get(k));
        }
        t.frames.remove(t.frames.size() - 1);
    }

    private void append(int v) {
        if (log.size() < 64) {
            log.add(v);
        }
    }

    private void end(int newState, int v) {
        state = newState;
        result = v;
        main.status = StackfulCoro.CO_DEAD;
    }

    private int status(int h) {
        return fibers.containsKey(h) ? fibers.get(h).status : StackfulCoro.CO_DEAD;
    }

    private int liveCount() {
        int live = 0;
        for (Fiber t : fibers.values()) {
            if (t != main && t.status != StackfulCoro.CO_DEAD) {
                live++;
            }
        }
        return live;
    }

    /** Asks x every getter and compares. */
    void compare(String when, StackfulCoro x, Check check) {
        check.due(when + "getState()", x.getState(), state);
        check.due(when + "getResult()", x.getResult(), result);
        check.due(when + "currentCo()", x.currentCo(), state == StackfulCoro.ST_RUNNING ? current.handle : 0);
        check.due(when + "getLiveCount()", x.getLiveCount(), liveCount());
        check.due(when + "getLastHandle()", x.getLastHandle(), last);
        check.due(when + "getCodeLength()", x.getCodeLength(), code.size());
        check.due(when + "getLogCount()", x.getLogCount(), log.size());
        for (int i = -1; i <= 65; i++) {
            check.due(when + "getLog(" + i + ")", x.getLog(i), i >= 0 && i < log.size() ? log.get(i) : 0);
        }
        // Handles long dead are looked at now and then, since a run may make very many.
        for (int h = last % 16 == 0 ? -1 : Math.max(-1, last - 12); h <= last + 1; h++) {
            compareHandle(when, h, x, check);
        }
        compareHandle(when, 0, x, check);
    }

    private void compareHandle(String when, int h, StackfulCoro x, Check check) {
        Fiber t = fibers.get(h);
        int depth = t == null ? 0 : t.frames.size();
        int pending = 0;
        for (int d = 0; d < depth; d++) {
            for (int tag : t.frames.get(d).tags) {
                pending += tag;
            }
        }
        check.due(when + "coStatus(" + h + ")", x.coStatus(h), status(h));
        check.due(when + "getDepth(" + h + ")", x.getDepth(h), depth);
        check.due(when + "getPendingCleanups(" + h + ")", x.getPendingCleanups(h), pending);
        for (int r = -1; r <= 8; r++) {
            check.due(when + "getReg(" + h + ", " + r + ")", x.getReg(h, r), depth == 0 || r < 0 || r > 7 ? 0 : t.top().r[r]);
        }
    }
}
