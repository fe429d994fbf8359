/** Collects the answers of one test; every wrong one is printed, and end() turns them into the exit code. */
final class Check {
    private int wrong;
    private int asked;

    void due(String what, long got, long want) {
        asked++;
        if (got != want) {
            wrong++;
            System.out.println(what + " answered " + got + ", due is " + want);
        }
    }

    void due(String what, boolean got, boolean want) {
        due(what, got ? 1L : 0L, want ? 1L : 0L);
    }

    void log(String what, StackfulCoro x, int... want) {
        due(what + ": getLogCount()", x.getLogCount(), want.length);
        for (int i = 0; i < want.length; i++) {
            due(what + ": getLog(" + i + ")", x.getLog(i), want[i]);
        }
    }

    void ended(String what, StackfulCoro x, int state, int result) {
        due(what + ": getState()", x.getState(), state);
        due(what + ": getResult()", x.getResult(), result);
    }

    int wrongSoFar() {
        return wrong;
    }

    void end() {
        System.out.println(wrong == 0 ? asked + " answers as due" : wrong + " of " + asked + " answers not as due");
        if (wrong != 0) {
            System.exit(1);
        }
    }
}
