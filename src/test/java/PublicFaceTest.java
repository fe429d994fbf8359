import java.lang.reflect.Constructor;
import java.lang.reflect.Field;
import java.lang.reflect.Method;
import java.lang.reflect.Modifier;
import java.util.Arrays;
import java.util.Set;
import java.util.TreeSet;

/** "The public face": the class, its constructor, methods and constants, and nothing else that can be seen from outside. */
public final class PublicFaceTest {
    private static final Set<String> METHODS = Set.of(
            "boolean emit[int, int, int, int]", "boolean start[int, int]", "int run[int]", "int getState[]",
            "int getResult[]", "int coStatus[int]", "int currentCo[]", "int getDepth[int]", "int getReg[int, int]",
            "int getPendingCleanups[int]", "int getLiveCount[]", "int getLastHandle[]", "int getLogCount[]",
            "int getLog[int]", "int getCodeLength[]");

    private static final Check CHECK = new Check();
    private static int named;

    public static void main(String[] args) throws ReflectiveOperationException {
        classAndConstructor();
        methods();
        constants();
        nothingElse();
        CHECK.end();
    }

    private static void classAndConstructor() {
        CHECK.due("public final", StackfulCoro.class.getModifiers(), Modifier.PUBLIC | Modifier.FINAL);
        CHECK.due("it extends nothing", StackfulCoro.class.getSuperclass() == Object.class, true);
        CHECK.due("it implements nothing", StackfulCoro.class.getInterfaces().length, 0);
        CHECK.due("it nests nothing", StackfulCoro.class.getDeclaredClasses().length, 0);
        Constructor<?>[] made = StackfulCoro.class.getDeclaredConstructors();
        CHECK.due("constructors", made.length, 1);
        CHECK.due("public constructor", made[0].getModifiers(), Modifier.PUBLIC);
        CHECK.due("StackfulCoro(int maxCo, int maxDepth)", Arrays.equals(made[0].getParameterTypes(), new Class<?>[] {int.class, int.class}), true);
        CHECK.due("exceptions declared by the constructor", made[0].getExceptionTypes().length, 0);
    }

    private static void methods() {
        Set<String> found = new TreeSet<>();
        for (Method m : StackfulCoro.class.getDeclaredMethods()) {
            if (!Modifier.isPrivate(m.getModifiers())) {
                CHECK.due(m.getName() + " is public and no more", m.getModifiers(), Modifier.PUBLIC);
                CHECK.due("exceptions declared by " + m.getName(), m.getExceptionTypes().length, 0);
                found.add(m.getReturnType() + " " + m.getName() + Arrays.toString(m.getParameterTypes()));
            }
        }
        for (String m : METHODS) {
            CHECK.due("there is " + m, found.contains(m), true);
        }
        for (String m : found) {
            CHECK.due(m + " is the document's", METHODS.contains(m), true);
        }
    }

    // The other tests use the names, so the numbers stand here.
    private static void constants() throws ReflectiveOperationException {
        upwards("OP_", 0, "LOADK", "MOVE", "ADD", "SUB", "LT", "JMP", "JZ", "CALL", "RET", "OUT", "DEFER", "ERROR", "CREATE", "RESUME",
                "WRESUME", "YIELD", "STATUS", "CLOSE", "RUNNING");
        upwards("ST_", 0, "LOADING", "RUNNING", "DONE", "FAILED");
        upwards("CO_", 0, "SUSPENDED", "RUNNING", "NORMAL", "DEAD");
        upwards("ERR_", -8, "CLOSE_ACTIVE", "BAD_PC", "CLEANUP_FULL", "TOO_MANY", "STACK", "YIELD_MAIN", "NOT_SUSPENDED", "DEAD");
        upwards("MAX_", 64, "CODE");
        upwards("LOG_", 64, "CAP");
    }

    private static void upwards(String prefix, int first, String... names) throws ReflectiveOperationException {
        int value = first;
        for (String name : names) {
            Field f = StackfulCoro.class.getDeclaredField(prefix + name);
            CHECK.due(f.getName(), f.getInt(null), value);
            CHECK.due(f.getName() + " is public, static and final", f.getModifiers(), Modifier.PUBLIC | Modifier.STATIC | Modifier.FINAL);
            CHECK.due(f.getName() + " is an int", f.getType() == int.class, true);
            value++;
            named++;
        }
    }

    private static void nothingElse() {
        int seen = 0;
        for (Field f : StackfulCoro.class.getDeclaredFields()) {
            seen += Modifier.isPrivate(f.getModifiers()) ? 0 : 1;
        }
        CHECK.due("fields seen from outside", seen, named);
    }
}
