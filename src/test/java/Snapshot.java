import java.util.LinkedHashMap;
import java.util.Map;

/** What every getter answered about a machine at one moment, inside and outside the range of each argument. */
final class Snapshot {
    private static final int MIN = Integer.MIN_VALUE;
    private static final int MAX = Integer.MAX_VALUE;

    private final Map<String, Integer> answers = new LinkedHashMap<>();

    private Snapshot() {
    }

    static Snapshot of(StackfulCoro x) {
        Snapshot s = new Snapshot();
        s.answers.put("getState()", x.getState());
        s.answers.put("getResult()", x.getResult());
        s.answers.put("currentCo()", x.currentCo());
        s.answers.put("getLiveCount()", x.getLiveCount());
        s.answers.put("getLastHandle()", x.getLastHandle());
        s.answers.put("getLogCount()", x.getLogCount());
        s.answers.put("getCodeLength()", x.getCodeLength());
        for (int i = -1; i <= 65; i++) {
            s.answers.put("getLog(" + i + ")", x.getLog(i));
        }
        for (int h = -1; h <= x.getLastHandle() + 2; h++) {
            s.addHandle(x, h);
        }
        s.addHandle(x, MIN);
        s.addHandle(x, MAX);
        return s;
    }

    private void addHandle(StackfulCoro x, int h) {
        answers.put("coStatus(" + h + ")", x.coStatus(h));
        answers.put("getDepth(" + h + ")", x.getDepth(h));
        answers.put("getPendingCleanups(" + h + ")", x.getPendingCleanups(h));
        for (int r = -1; r <= 8; r++) {
            answers.put("getReg(" + h + ", " + r + ")", x.getReg(h, r));
        }
    }

    /** The first answer that is not the one of the other snapshot, or nothing. */
    String difference(Snapshot other) {
        for (Map.Entry<String, Integer> answer : answers.entrySet()) {
            Integer want = other.answers.get(answer.getKey());
            if (!answer.getValue().equals(want)) {
                return answer.getKey() + " answered " + answer.getValue() + ", due is " + want;
            }
        }
        return answers.size() == other.answers.size() ? "" : "other handles are given out";
    }
}
