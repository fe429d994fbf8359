/** Collects the answers of one test; every wrong one is printed, and end() turns them into the exit code. */
final class Check {
    private String sentence = "";
    private int wrong;
    private int asked;

    /** Names the sentence of the document that the answers from here on belong to. */
    void sentence(String text) {
        sentence = "\"" + text + "\" ";
    }

    void due(String what, long got, long want) {
        asked++;
        if (got != want) {
            wrong++;
            System.out.println(sentence + what + " answered " + got + ", due is " + want);
        }
    }

    void due(String what, boolean got, boolean want) {
        due(what, got ? 1L : 0L, want ? 1L : 0L);
    }

    void log(String what, StackfulCoro x, int... want) {
        due(what + ": getLogCount()", x.getLogCount(), want.length);
        for (int i = 0; i < want.length; i++) {
            due(what + ": getLog(" + i + ")", x.getLog(i), want[i]);
        }
    }

    void ended(String what, StackfulCoro x, int state, int result) {
        due(what + ": getState()", x.getState(), state);
        due(what + ": getResult()", x.getResult(), result);
    }

    void regs(String what, StackfulCoro x, int h, int... want) {
        for (int r = 0; r < 8; r++) {
            due(what + ": getReg(" + h + ", " + r + ")", x.getReg(h, r), want[r]);
        }
    }

    /** Every getter answers what it answered when the snapshot was taken. */
    void unchanged(String what, StackfulCoro x, Snapshot before) {
        asked++;
        String difference = Snapshot.of(x).difference(before);
        if (!difference.isEmpty()) {
            wrong++;
            System.out.println(sentence + what + ": " + difference);
        }
    }

    /** Two machines go on alike, step by step, to their end: what no getter shows is then alike too. */
    void sameFuture(String what, StackfulCoro x, StackfulCoro twin) {
        for (int step = 0, done = 1; step < 200 && done != 0; step++) {
            unchanged(what + ", " + step + " steps later", x, Snapshot.of(twin));
            done = twin.run(1);
            due(what + ", run(1) " + step + " steps later", x.run(1), done);
        }
    }

    int wrongSoFar() {
        return wrong;
    }

    void end() {
        System.out.println(wrong == 0 ? asked + " answers as due" : wrong + " of " + asked + " answers not as due");
        if (wrong != 0) {
            System.exit(1);
        }
    }
}
