import java.lang.reflect.InvocationTargetException;
import java.lang.reflect.Method;

/** Runs the test that is named, and ends it as a failed one if it takes too long: no call may fail to end. */
final class TimeLimit {
    private static final long SECONDS = 120;

    private TimeLimit() {
    }

    public static void main(String[] args) throws Throwable {
        Thread watch = new Thread(() -> endLate(args[0]));
        watch.setDaemon(true);
        watch.start();
        try {
            Method test = Class.forName(args[0]).getMethod("main", String[].class);
            test.setAccessible(true);
            test.invoke(null, (Object) new String[0]);
        } catch (InvocationTargetException e) {
            throw e.getCause();
        }
    }

    private static void endLate(String name) {
        try {
            Thread.sleep(SECONDS * 1000);
        } catch (InterruptedException e) {
            return;
        }
        System.out.println(name + " has not ended after " + SECONDS + " seconds");
        Runtime.getRuntime().halt(1);
    }
}
