import java.lang.reflect.Field;
import java.lang.reflect.Modifier;

/** The public constants: their names and, since the other tests use the names, their numbers. */
public final class ConstantsTest {
    private static final Check CHECK = new Check();
    private static int named;

    public static void main(String[] args) throws ReflectiveOperationException {
        upwards("OP_", 0, "LOADK", "MOVE", "ADD", "SUB", "LT", "JMP", "JZ", "CALL", "RET", "OUT", "DEFER", "ERROR", "CREATE", "RESUME",
                "WRESUME", "YIELD", "STATUS", "CLOSE", "RUNNING");
        upwards("ST_", 0, "LOADING", "RUNNING", "DONE", "FAILED");
        upwards("CO_", 0, "SUSPENDED", "RUNNING", "NORMAL", "DEAD");
        upwards("ERR_", -8, "CLOSE_ACTIVE", "BAD_PC", "CLEANUP_FULL", "TOO_MANY", "STACK", "YIELD_MAIN", "NOT_SUSPENDED", "DEAD");
        upwards("MAX_", 64, "CODE");
        upwards("LOG_", 64, "CAP");
        int declared = 0;
        for (Field f : StackfulCoro.class.getDeclaredFields()) {
            declared += Modifier.isPublic(f.getModifiers()) ? 1 : 0;
        }
        CHECK.due("public constants", declared, named);
        CHECK.end();
    }

    private static void upwards(String prefix, int first, String... names) throws ReflectiveOperationException {
        int value = first;
        for (String name : names) {
            Field f = StackfulCoro.class.getDeclaredField(prefix + name);
            CHECK.due(f.getName(), f.getInt(null), value);
            CHECK.due(f.getName() + " is public, static and final", f.getModifiers(), Modifier.PUBLIC | Modifier.STATIC | Modifier.FINAL);
            CHECK.due(f.getName() + " is an int", f.getType() == int.class, true);
            value++;
            named++;
        }
    }
}
