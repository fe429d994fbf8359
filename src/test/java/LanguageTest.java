import com.sun.source.tree.ClassTree;
import com.sun.source.tree.CompilationUnitTree;
import com.sun.source.tree.ExpressionTree;
import com.sun.source.tree.IdentifierTree;
import com.sun.source.tree.LiteralTree;
import com.sun.source.tree.MemberSelectTree;
import com.sun.source.tree.MethodInvocationTree;
import com.sun.source.tree.MethodTree;
import com.sun.source.tree.NewArrayTree;
import com.sun.source.tree.Tree;
import com.sun.source.tree.VariableTree;
import com.sun.source.util.JavacTask;
import com.sun.source.util.TreeScanner;
import com.sun.source.util.Trees;
import java.io.File;
import java.io.IOException;
import java.lang.reflect.Constructor;
import java.lang.reflect.Field;
import java.lang.reflect.Method;
import java.lang.reflect.Modifier;
import java.util.EnumSet;
import java.util.HashMap;
import java.util.Map;
import java.util.Set;
import java.util.TreeSet;
import javax.lang.model.element.Name;
import javax.tools.JavaCompiler;
import javax.tools.StandardJavaFileManager;
import javax.tools.ToolProvider;

/** The rules of LANGUAGE.md that can be read off the class and its text, and the document's public face. */
public final class LanguageTest {
    private static final String SOURCE = "src/main/java/StackfulCoro.java";
    private static final Set<String> FACE = Set.of(
            "boolean emit(int,int,int,int)", "boolean start(int,int)", "int run(int)", "int getState()",
            "int getResult()", "int coStatus(int)", "int currentCo()", "int getDepth(int)", "int getReg(int,int)",
            "int getPendingCleanups(int)", "int getLiveCount()", "int getLastHandle()", "int getLogCount()",
            "int getLog(int)", "int getCodeLength()");
    private static final Set<Class<?>> TYPES = Set.of(
            void.class, int.class, long.class, short.class, byte.class, char.class, boolean.class,
            int[].class, long[].class, short[].class, byte[].class, char[].class, boolean[].class);
    private static final Set<Tree.Kind> RULED_OUT = EnumSet.of(
            Tree.Kind.THROW, Tree.Kind.TRY, Tree.Kind.CATCH, Tree.Kind.SYNCHRONIZED, Tree.Kind.ASSERT,
            Tree.Kind.INSTANCE_OF, Tree.Kind.LAMBDA_EXPRESSION, Tree.Kind.MEMBER_REFERENCE, Tree.Kind.NEW_CLASS,
            Tree.Kind.NULL_LITERAL, Tree.Kind.STRING_LITERAL, Tree.Kind.FLOAT_LITERAL, Tree.Kind.DOUBLE_LITERAL,
            Tree.Kind.IMPORT, Tree.Kind.INTERFACE, Tree.Kind.ENUM, Tree.Kind.RECORD, Tree.Kind.ANNOTATION);

    private static final int MOST_DEEP = 6;

    private static final Check CHECK = new Check();

    public static void main(String[] args) throws IOException {
        face();
        members();
        text();
        CHECK.end();
    }

    private static void hold(String rule, boolean holds) {
        CHECK.due(rule, holds, true);
    }

    private static void face() {
        Set<String> methods = new TreeSet<>();
        for (Method m : StackfulCoro.class.getDeclaredMethods()) {
            if (!Modifier.isPrivate(m.getModifiers())) {
                hold("rule 1: " + m + " is public and not static", m.getModifiers() == Modifier.PUBLIC);
                StringBuilder head = new StringBuilder();
                for (Class<?> p : m.getParameterTypes()) {
                    head.append(head.length() == 0 ? "" : ",").append(p);
                }
                methods.add(m.getReturnType() + " " + m.getName() + "(" + head + ")");
            }
        }
        hold("the public methods are the document's: " + methods, methods.equals(FACE));
        Constructor<?>[] made = StackfulCoro.class.getDeclaredConstructors();
        hold("rule 1: one constructor", made.length == 1 && made[0].getModifiers() == Modifier.PUBLIC);
        hold("rule 1: public and final", StackfulCoro.class.getModifiers() == (Modifier.PUBLIC | Modifier.FINAL));
        hold("rule 1: no nested class", StackfulCoro.class.getDeclaredClasses().length == 0);
    }

    private static void members() {
        int own = 0;
        int constants = 0;
        for (Field f : StackfulCoro.class.getDeclaredFields()) {
            int m = f.getModifiers();
            hold("rule 2: type of " + f, TYPES.contains(f.getType()));
            if (Modifier.isStatic(m)) {
                hold("rule 5: " + f, Modifier.isFinal(m) && (f.getType() == int.class || f.getType() == long.class));
                constants += Modifier.isPublic(m) ? 1 : 0;
            } else {
                own++;
                hold("rule 1: " + f + " is private", Modifier.isPrivate(m));
            }
        }
        CHECK.due("the document's public constants", constants, 19 + 4 + 4 + 8 + 2);
        hold("rule 10: fields " + own, own <= 40);
        Set<String> names = new TreeSet<>();
        for (Method m : StackfulCoro.class.getDeclaredMethods()) {
            hold("rule 1: the name " + m.getName() + " is borne once", names.add(m.getName()));
            hold("rule 2: answer of " + m, TYPES.contains(m.getReturnType()) && !m.getReturnType().isArray());
            hold("rule 10: parameters of " + m, m.getParameterCount() <= 7);
            for (Class<?> p : m.getParameterTypes()) {
                hold("rule 2: parameters of " + m, TYPES.contains(p));
            }
        }
    }

    private static void text() throws IOException {
        JavaCompiler compiler = ToolProvider.getSystemJavaCompiler();
        try (StandardJavaFileManager files = compiler.getStandardFileManager(null, null, null)) {
            JavacTask task = (JavacTask) compiler.getTask(null, files, null, null, null,
                    files.getJavaFileObjects(new File(SOURCE)));
            CompilationUnitTree unit = task.parse().iterator().next();
            hold("no package line", unit.getPackageName() == null);
            hold("rule 1: one class", unit.getTypeDecls().size() == 1);
            Reader reader = new Reader(unit, Trees.instance(task));
            reader.scan(unit, null);
            reader.callsEnd();
        }
    }

    private static final class Reader extends TreeScanner<Void, Void> {
        private final Map<String, Set<String>> calls = new HashMap<>();
        private final CompilationUnitTree unit;
        private final Trees trees;
        private String method = "";
        private boolean inArguments;

        Reader(CompilationUnitTree unit, Trees trees) {
            this.unit = unit;
            this.trees = trees;
        }

        private long line(long position) {
            return unit.getLineMap().getLineNumber(position);
        }

        private String at(Tree tree) {
            return " in line " + line(trees.getSourcePositions().getStartPosition(unit, tree));
        }

        @Override
        public Void scan(Tree tree, Void none) {
            if (tree != null && RULED_OUT.contains(tree.getKind())) {
                hold("rules 1 to 6: no " + tree.getKind() + at(tree), false);
            }
            return super.scan(tree, none);
        }

        @Override
        public Void visitMethod(MethodTree tree, Void none) {
            method = tree.getName().toString();
            calls.put(method, new TreeSet<>());
            long first = line(trees.getSourcePositions().getStartPosition(unit, tree));
            long last = line(trees.getSourcePositions().getEndPosition(unit, tree));
            hold("rule 10: length of " + method, last - first < 60);
            super.visitMethod(tree, none);
            method = "";
            return null;
        }

        @Override
        public Void visitMethodInvocation(MethodInvocationTree tree, Void none) {
            hold("rule 10: no call inside the arguments of a call" + at(tree), !inArguments);
            ExpressionTree called = tree.getMethodSelect();
            if (called instanceof IdentifierTree name) {
                if (!name.getName().contentEquals("super")) {
                    calls.get(method).add(name.getName().toString());
                }
            } else {
                hold("rule 3: a call of another object" + at(tree), false);
            }
            inArguments = true;
            scan(tree.getArguments(), none);
            inArguments = false;
            return null;
        }

        @Override
        public Void visitMemberSelect(MemberSelectTree tree, Void none) {
            Name of = tree.getExpression() instanceof IdentifierTree name ? name.getName() : null;
            hold("rule 3: only fields of this are selected" + at(tree), of != null && of.contentEquals("this"));
            return super.visitMemberSelect(tree, none);
        }

        @Override
        public Void visitNewArray(NewArrayTree tree, Void none) {
            hold("rule 4: an array is made in a field's initialiser" + at(tree), method.isEmpty());
            hold("rule 4: with one length" + at(tree), tree.getDimensions().size() == 1 && tree.getInitializers() == null);
            ExpressionTree length = tree.getDimensions().get(0);
            hold("rule 4: a literal or a constant" + at(tree), length instanceof LiteralTree || length instanceof IdentifierTree);
            return super.visitNewArray(tree, none);
        }

        @Override
        public Void visitVariable(VariableTree tree, Void none) {
            if (tree.getType() != null) {
                hold("rule 2: type" + at(tree), tree.getType().toString().matches("(int|long|short|byte|char|boolean)(\\[\\])?"));
            }
            return super.visitVariable(tree, none);
        }

        @Override
        public Void visitClass(ClassTree tree, Void none) {
            for (Tree member : tree.getMembers()) {
                hold("rules 1 and 5: only fields and methods" + at(member),
                        member instanceof MethodTree || member instanceof VariableTree);
            }
            return super.visitClass(tree, none);
        }

        void callsEnd() {
            for (String name : calls.keySet()) {
                int depth = depth(name, 0);
                hold("rules 8 and 10: calls from " + name + " go " + depth + " deep, itself counted", depth <= MOST_DEEP);
            }
        }

        // No chain is followed further than one call too deep, so a recursion ends there as well.
        private int depth(String name, int above) {
            int deepest = 0;
            if (above < MOST_DEEP) {
                for (String called : calls.getOrDefault(name, Set.of())) {
                    deepest = Math.max(deepest, depth(called, above + 1));
                }
            }
            return deepest + 1;
        }
    }
}
