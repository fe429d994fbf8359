import com.sun.source.tree.AssignmentTree;
import com.sun.source.tree.BinaryTree;
import com.sun.source.tree.BlockTree;
import com.sun.source.tree.ClassTree;
import com.sun.source.tree.CompilationUnitTree;
import com.sun.source.tree.DoWhileLoopTree;
import com.sun.source.tree.ExpressionTree;
import com.sun.source.tree.ForLoopTree;
import com.sun.source.tree.MemberSelectTree;
import com.sun.source.tree.MethodInvocationTree;
import com.sun.source.tree.MethodTree;
import com.sun.source.tree.NewArrayTree;
import com.sun.source.tree.Tree;
import com.sun.source.tree.TypeCastTree;
import com.sun.source.tree.VariableTree;
import com.sun.source.tree.WhileLoopTree;
import com.sun.source.util.JavacTask;
import com.sun.source.util.TreePath;
import com.sun.source.util.TreePathScanner;
import com.sun.source.util.Trees;
import java.io.File;
import java.io.IOException;
import java.util.EnumSet;
import java.util.HashMap;
import java.util.HashSet;
import java.util.Map;
import java.util.Set;
import javax.lang.model.element.Element;
import javax.lang.model.element.ElementKind;
import javax.lang.model.element.Modifier;
import javax.lang.model.element.VariableElement;
import javax.lang.model.type.ArrayType;
import javax.lang.model.type.TypeKind;
import javax.lang.model.type.TypeMirror;
import javax.tools.JavaCompiler;
import javax.tools.StandardJavaFileManager;
import javax.tools.ToolProvider;

/** Those rules of LANGUAGE.md that can be read off the class's text; PublicFaceTest has what is seen from outside. */
public final class LanguageTest {
    private static final String SOURCE = "src/main/java/StackfulCoro.java";
    private static final int MOST_DEEP = 6;
    private static final int MOST_PARAMETERS = 7;
    private static final int SOME_SIXTY_LINES = 66;
    private static final int SOME_FORTY_FIELDS = 44;

    private static final Set<TypeKind> TYPES = EnumSet.of(
            TypeKind.INT, TypeKind.LONG, TypeKind.SHORT, TypeKind.BYTE, TypeKind.CHAR, TypeKind.BOOLEAN);
    private static final Set<Tree.Kind> RULED_OUT = EnumSet.of(
            Tree.Kind.THROW, Tree.Kind.TRY, Tree.Kind.CATCH, Tree.Kind.SYNCHRONIZED, Tree.Kind.ASSERT,
            Tree.Kind.INSTANCE_OF, Tree.Kind.LAMBDA_EXPRESSION, Tree.Kind.MEMBER_REFERENCE, Tree.Kind.NEW_CLASS,
            Tree.Kind.NULL_LITERAL, Tree.Kind.STRING_LITERAL, Tree.Kind.FLOAT_LITERAL, Tree.Kind.DOUBLE_LITERAL,
            Tree.Kind.IMPORT, Tree.Kind.INTERFACE, Tree.Kind.ENUM, Tree.Kind.RECORD, Tree.Kind.ANNOTATION);
    private static final Set<Tree.Kind> LOOPS = EnumSet.of(
            Tree.Kind.FOR_LOOP, Tree.Kind.ENHANCED_FOR_LOOP, Tree.Kind.WHILE_LOOP, Tree.Kind.DO_WHILE_LOOP);
    private static final Set<Tree.Kind> CONDITIONS = EnumSet.of(
            Tree.Kind.IF, Tree.Kind.CONDITIONAL_EXPRESSION, Tree.Kind.SWITCH, Tree.Kind.SWITCH_EXPRESSION);

    private static final Check CHECK = new Check();

    public static void main(String[] args) throws IOException {
        JavaCompiler compiler = ToolProvider.getSystemJavaCompiler();
        try (StandardJavaFileManager files = compiler.getStandardFileManager(null, null, null)) {
            JavacTask task = (JavacTask) compiler.getTask(null, files, null, null, null,
                    files.getJavaFileObjects(new File(SOURCE)));
            CompilationUnitTree unit = task.parse().iterator().next();
            task.analyze();
            hold("no package line", unit.getPackageName() == null);
            hold("rule 1: one class", unit.getTypeDecls().size() == 1);
            Reader reader = new Reader(unit, Trees.instance(task));
            reader.scan(unit, null);
            reader.callsEnd();
        }
        CHECK.end();
    }

    private static void hold(String rule, boolean holds) {
        CHECK.due(rule, holds, true);
    }

    private static final class Reader extends TreePathScanner<Void, Void> {
        private final Map<Element, Set<Element>> calls = new HashMap<>();
        private final CompilationUnitTree unit;
        private final Trees trees;
        private Element own;
        private Element method;
        private boolean inArguments;

        Reader(CompilationUnitTree unit, Trees trees) {
            this.unit = unit;
            this.trees = trees;
        }

        private long line(long position) {
            return unit.getLineMap().getLineNumber(position);
        }

        private String at(Tree tree) {
            return " in line " + line(trees.getSourcePositions().getStartPosition(unit, tree));
        }

        private Element element(Tree tree) {
            return trees.getElement(new TreePath(getCurrentPath(), tree));
        }

        private boolean isArray(Tree tree) {
            TypeMirror type = trees.getTypeMirror(new TreePath(getCurrentPath(), tree));
            return type != null && type.getKind() == TypeKind.ARRAY;
        }

        private boolean inConstructor() {
            return method != null && method.getKind() == ElementKind.CONSTRUCTOR;
        }

        private boolean inside(Set<Tree.Kind> kinds) {
            for (Tree around : getCurrentPath()) {
                if (kinds.contains(around.getKind())) {
                    return true;
                }
            }
            return false;
        }

        private static boolean allowed(TypeMirror type) {
            return TYPES.contains(type.getKind())
                    || type instanceof ArrayType array && TYPES.contains(array.getComponentType().getKind());
        }

        @Override
        public Void scan(Tree tree, Void none) {
            if (tree != null && RULED_OUT.contains(tree.getKind())) {
                hold("rules 1 to 6: no " + tree.getKind() + at(tree), false);
            }
            return super.scan(tree, none);
        }

        @Override
        public Void visitClass(ClassTree tree, Void none) {
            hold("rule 1: no nested class" + at(tree), own == null);
            own = trees.getElement(getCurrentPath());
            Set<String> visible = new HashSet<>();
            Set<String> hidden = new HashSet<>();
            int fields = 0;
            for (Element member : own.getEnclosedElements()) {
                boolean isPrivate = member.getModifiers().contains(Modifier.PRIVATE);
                if (member.getKind() == ElementKind.METHOD) {
                    (isPrivate ? hidden : visible).add(member.getSimpleName().toString());
                } else if (member.getKind() == ElementKind.FIELD && !member.getModifiers().contains(Modifier.STATIC)) {
                    fields++;
                    hold("rule 1: " + member + " is private", isPrivate);
                }
            }
            hidden.retainAll(visible);
            hold("rule 1: private methods with the name of a public one: " + hidden, hidden.isEmpty());
            hold("rule 10: " + fields + " fields", fields <= SOME_FORTY_FIELDS);
            for (Tree member : tree.getMembers()) {
                hold("rule 5: no static initialiser" + at(member), !(member instanceof BlockTree block && block.isStatic()));
            }
            return super.visitClass(tree, none);
        }

        @Override
        public Void visitMethod(MethodTree tree, Void none) {
            method = trees.getElement(getCurrentPath());
            calls.put(method, new HashSet<>());
            long first = line(trees.getSourcePositions().getStartPosition(unit, tree));
            long last = line(trees.getSourcePositions().getEndPosition(unit, tree));
            hold("rule 10: " + method + " has " + (last - first + 1) + " lines", last - first < SOME_SIXTY_LINES);
            hold("rule 10: parameters of " + method, tree.getParameters().size() <= MOST_PARAMETERS);
            hold("rule 6: " + method + " is not synchronized", !method.getModifiers().contains(Modifier.SYNCHRONIZED));
            hold("rule 3: " + method + " is not native", !method.getModifiers().contains(Modifier.NATIVE));
            if (tree.getReturnType() != null) {
                TypeKind answer = trees.getTypeMirror(new TreePath(getCurrentPath(), tree.getReturnType())).getKind();
                hold("rules 2 and 4: answer of " + method, answer == TypeKind.VOID || TYPES.contains(answer));
            }
            super.visitMethod(tree, none);
            method = null;
            return null;
        }

        @Override
        public Void visitMethodInvocation(MethodInvocationTree tree, Void none) {
            Element called = trees.getElement(getCurrentPath());
            if (called.getKind() == ElementKind.METHOD) {
                hold("rule 10: no call inside the arguments of a call" + at(tree), !inArguments);
                hold("rule 3: only the class's own methods are called" + at(tree), called.getEnclosingElement() == own);
                hold("rule 5: a field's initialiser calls nothing" + at(tree), method != null);
                calls.getOrDefault(method, new HashSet<>()).add(called);
            }
            scan(tree.getMethodSelect(), none);
            boolean outer = inArguments;
            inArguments = true;
            scan(tree.getArguments(), none);
            inArguments = outer;
            return null;
        }

        @Override
        public Void visitMemberSelect(MemberSelectTree tree, Void none) {
            boolean isLength = tree.getIdentifier().contentEquals("length") && isArray(tree.getExpression());
            Element selected = trees.getElement(getCurrentPath());
            hold("rule 3: only the class's own members are named" + at(tree), isLength || selected.getEnclosingElement() == own);
            return super.visitMemberSelect(tree, none);
        }

        @Override
        public Void visitVariable(VariableTree tree, Void none) {
            Element variable = trees.getElement(getCurrentPath());
            hold("rule 2: type of " + variable + at(tree), allowed(variable.asType()));
            if (variable.getModifiers().contains(Modifier.STATIC)) {
                TypeKind kind = variable.asType().getKind();
                hold("rule 5: " + variable + " is a compile-time constant", ((VariableElement) variable).getConstantValue() != null);
                hold("rule 5: " + variable + " is an int or a long", kind == TypeKind.INT || kind == TypeKind.LONG);
            }
            return super.visitVariable(tree, none);
        }

        @Override
        public Void visitNewArray(NewArrayTree tree, Void none) {
            hold("rule 4: made in a field's initialiser or in the constructor" + at(tree), method == null || inConstructor());
            hold("rule 4: not in a loop and not behind a condition" + at(tree), !inside(LOOPS) && !inside(CONDITIONS));
            hold("rule 4: with one length" + at(tree), tree.getDimensions().size() == 1 && tree.getInitializers() == null);
            for (ExpressionTree length : tree.getDimensions()) {
                boolean isLiteral = length.getKind() == Tree.Kind.INT_LITERAL;
                boolean isConstant = element(length) instanceof VariableElement named && named.getConstantValue() != null;
                hold("rule 4: the length is a literal or a constant" + at(tree), isLiteral || isConstant);
            }
            return super.visitNewArray(tree, none);
        }

        @Override
        public Void visitAssignment(AssignmentTree tree, Void none) {
            if (isArray(tree.getVariable())) {
                Element variable = element(tree.getVariable());
                boolean isField = variable != null && variable.getKind() == ElementKind.FIELD;
                hold("rule 4: no method assigns to an array field" + at(tree), !isField || inConstructor());
                hold("rule 4: no array variable changes in a loop" + at(tree), !inside(LOOPS));
            }
            return super.visitAssignment(tree, none);
        }

        @Override
        public Void visitBinary(BinaryTree tree, Void none) {
            hold("rule 4: no array is compared" + at(tree), !isArray(tree.getLeftOperand()) && !isArray(tree.getRightOperand()));
            return super.visitBinary(tree, none);
        }

        @Override
        public Void visitTypeCast(TypeCastTree tree, Void none) {
            TypeMirror type = trees.getTypeMirror(new TreePath(getCurrentPath(), tree.getType()));
            hold("rule 6: no cast of a reference" + at(tree), type.getKind().isPrimitive());
            return super.visitTypeCast(tree, none);
        }

        // A literal inside is looked at, since javac wraps the condition of while and do in brackets.
        private void bounded(Tree loop, ExpressionTree condition) {
            boolean isOpen = condition == null || condition.toString().replaceAll("[()]", "").equals("true");
            hold("rule 8: the loop has an end" + at(loop), !isOpen);
        }

        @Override
        public Void visitForLoop(ForLoopTree tree, Void none) {
            bounded(tree, tree.getCondition());
            return super.visitForLoop(tree, none);
        }

        @Override
        public Void visitWhileLoop(WhileLoopTree tree, Void none) {
            bounded(tree, tree.getCondition());
            return super.visitWhileLoop(tree, none);
        }

        @Override
        public Void visitDoWhileLoop(DoWhileLoopTree tree, Void none) {
            bounded(tree, tree.getCondition());
            return super.visitDoWhileLoop(tree, none);
        }

        void callsEnd() {
            for (Element caller : calls.keySet()) {
                int depth = depth(caller, 0);
                hold("rules 8 and 10: calls from " + caller + " go " + depth + " deep, itself counted", depth <= MOST_DEEP);
            }
        }

        // No chain is followed further than one call too deep, so a recursion ends there as well.
        private int depth(Element caller, int above) {
            int deepest = 0;
            if (above < MOST_DEEP) {
                for (Element called : calls.getOrDefault(caller, Set.of())) {
                    deepest = Math.max(deepest, depth(called, above + 1));
                }
            }
            return deepest + 1;
        }
    }
}
