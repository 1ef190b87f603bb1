import com.sun.source.tree.BinaryTree;
import com.sun.source.tree.ClassTree;
import com.sun.source.tree.CompilationUnitTree;
import com.sun.source.tree.CompoundAssignmentTree;
import com.sun.source.tree.DoWhileLoopTree;
import com.sun.source.tree.ExpressionTree;
import com.sun.source.tree.ForLoopTree;
import com.sun.source.tree.InstanceOfTree;
import com.sun.source.tree.LambdaExpressionTree;
import com.sun.source.tree.LiteralTree;
import com.sun.source.tree.MemberReferenceTree;
import com.sun.source.tree.MethodInvocationTree;
import com.sun.source.tree.MethodTree;
import com.sun.source.tree.NewArrayTree;
import com.sun.source.tree.NewClassTree;
import com.sun.source.tree.ThrowTree;
import com.sun.source.tree.Tree;
import com.sun.source.tree.TryTree;
import com.sun.source.tree.TypeCastTree;
import com.sun.source.tree.VariableTree;
import com.sun.source.tree.WhileLoopTree;
import com.sun.source.util.JavacTask;
import com.sun.source.util.TreePath;
import com.sun.source.util.TreePathScanner;
import com.sun.source.util.Trees;
import java.io.IOException;
import java.nio.file.Path;
import java.util.ArrayList;
import java.util.HashSet;
import java.util.LinkedHashMap;
import java.util.LinkedHashSet;
import java.util.List;
import java.util.Map;
import java.util.Set;
import javax.lang.model.element.Element;
import javax.lang.model.element.Modifier;
import javax.lang.model.type.TypeMirror;
import javax.tools.JavaCompiler;
import javax.tools.StandardJavaFileManager;
import javax.tools.ToolProvider;

/** Compares the class, as the compiler reads it, with the rules of LANGUAGE.md that its text alone does not show. */
public final class LanguageTest {
    private static final Path PROGRAM = Path.of("src/main/java/GiantStairs.java");
    private static final String OWN = "GiantStairs";
    private static final int MOST_DEEP = 8;

    /** What the class calls of the library; all of it stands in rule 4. */
    private static final Set<String> LIBRARY = Set.of(
        "String.length()", "String.charAt(int)", "Integer.bitCount(int)", "Math.min(int,int)", "Math.max(int,int)",
        "System.arraycopy(java.lang.Object,int,java.lang.Object,int,int)", "StringBuilder.StringBuilder()",
        "StringBuilder.append(char)", "StringBuilder.append(java.lang.String)", "StringBuilder.append(int)",
        "AbstractStringBuilder.charAt(int)", "AbstractStringBuilder.length()", "AbstractStringBuilder.setLength(int)",
        "Object.Object()");
    private static final Set<String> EXCEPTIONS = Set.of(
        "IllegalStateException", "IllegalArgumentException", "IndexOutOfBoundsException", "ArithmeticException",
        "UnsupportedOperationException", "NoSuchElementException", "RuntimeException");
    private static final Set<String> TYPES = Set.of(
        "int", "long", "char", "boolean", "double", "float", "void", "String", "StringBuilder", "int[]", "boolean[]",
        "int[][]");

    private static int wrong = 0;

    public static void main(String[] args) throws IOException {
        Program program = new Program();
        program.read(PROGRAM);
        due(program.calls.containsKey("GiantStairs.run()"), "the calls of the program were not read");
        for (String method : program.calls.keySet()) {
            chainsEnd(program.calls, method, new ArrayList<>());
        }
        System.out.println(wrong == 0 ? "the rules are kept" : wrong + " times a rule is broken");
        if (wrong != 0) {
            System.exit(1);
        }
    }

    private static void due(boolean isKept, String rule) {
        if (!isKept) {
            wrong++;
            System.out.println(rule);
        }
    }

    /** The library's own calls count, too, so that no way of counting finds a ninth. */
    private static void chainsEnd(Map<String, Set<String>> calls, String method, List<String> before) {
        List<String> chain = new ArrayList<>(before);
        chain.add(method);
        if (before.contains(method) || chain.size() > MOST_DEEP) {
            due(false, "rule 11: calls " + chain.size() + " deep, or in a ring: " + chain);
            return;
        }
        for (String called : calls.getOrDefault(method, Set.of())) {
            chainsEnd(calls, called, chain);
        }
    }

    private static final class Program extends TreePathScanner<Void, Void> {
        private final Map<String, Set<String>> calls = new LinkedHashMap<>();
        private final Set<String> classes = new HashSet<>();
        private Trees trees;
        private String method = "";
        private boolean isInConstructor = false;

        void read(Path file) throws IOException {
            JavaCompiler compiler = ToolProvider.getSystemJavaCompiler();
            try (StandardJavaFileManager files = compiler.getStandardFileManager(null, null, null)) {
                JavacTask task = (JavacTask) compiler.getTask(
                    null, files, null, List.of("-proc:none"), null, files.getJavaFileObjects(file));
                Iterable<? extends CompilationUnitTree> units = task.parse();
                task.analyze();
                trees = Trees.instance(task);
                for (CompilationUnitTree unit : units) {
                    scan(unit, null);
                }
            }
        }

        private void keeps(boolean isKept, String rule, Tree tree) {
            due(isKept, rule + " in " + method + ": " + tree);
        }

        private Element element() {
            return trees.getElement(getCurrentPath());
        }

        private TypeMirror type(Tree tree) {
            return trees.getTypeMirror(new TreePath(getCurrentPath(), tree));
        }

        private boolean isText(Tree tree) {
            return type(tree).toString().equals("java.lang.String");
        }

        private static String nameOf(Element called) {
            return called.getEnclosingElement().getSimpleName() + "." + called;
        }

        private void typeIsAllowed(Tree type) {
            String name = type.toString();
            boolean isOwn = classes.contains(name.replace("[]", "")) && !name.endsWith("[][]");
            keeps(isOwn || TYPES.contains(name), "rule 3: the type", type);
        }

        @Override
        public Void visitClass(ClassTree tree, Void none) {
            for (Tree member : tree.getMembers()) {
                if (member instanceof ClassTree) {
                    classes.add(((ClassTree) member).getSimpleName().toString());
                }
            }
            Set<Modifier> modifiers = tree.getModifiers().getFlags();
            boolean isFace = tree.getSimpleName().contentEquals(OWN);
            keeps(isFace || modifiers.containsAll(Set.of(Modifier.PRIVATE, Modifier.STATIC)), "rule 1: the class", tree);
            keeps(tree.getExtendsClause() == null, "rule 2: a class above", tree);
            return super.visitClass(tree, none);
        }

        @Override
        public Void visitMethod(MethodTree tree, Void none) {
            method = nameOf(element());
            isInConstructor = tree.getReturnType() == null;
            calls.putIfAbsent(method, new LinkedHashSet<>());
            if (!isInConstructor) {
                typeIsAllowed(tree.getReturnType());
            }
            super.visitMethod(tree, none);
            method = "";
            isInConstructor = false;
            return none;
        }

        @Override
        public Void visitVariable(VariableTree tree, Void none) {
            typeIsAllowed(tree.getType());
            return super.visitVariable(tree, none);
        }

        @Override
        public Void visitMethodInvocation(MethodInvocationTree tree, Void none) {
            String called = nameOf(element());
            boolean isOwn = element().toString().startsWith("super") || isOwn(element());
            keeps(isOwn || LIBRARY.contains(called), "rule 4: the call", tree);
            calls.computeIfAbsent(method, key -> new LinkedHashSet<>()).add(called);
            return super.visitMethodInvocation(tree, none);
        }

        private static boolean isOwn(Element element) {
            Element enclosing = element.getEnclosingElement();
            return enclosing.toString().equals(OWN) || enclosing.toString().startsWith(OWN + ".");
        }

        /** All else that a call makes is made in constructors and used again, as all calls live in one room. */
        @Override
        public Void visitNewClass(NewClassTree tree, Void none) {
            boolean isThrown = getCurrentPath().getParentPath().getLeaf() instanceof ThrowTree;
            keeps(isThrown || method.isEmpty() || isInConstructor, "rule 12: an object made", tree);
            keeps(isThrown || isOwn(element()) || LIBRARY.contains(nameOf(element())), "rule 4: the object", tree);
            if (!isThrown) {
                calls.computeIfAbsent(method, key -> new LinkedHashSet<>()).add(nameOf(element()));
            }
            return super.visitNewClass(tree, none);
        }

        @Override
        public Void visitNewArray(NewArrayTree tree, Void none) {
            keeps(method.isEmpty() || isInConstructor, "rule 12: an array made", tree);
            return super.visitNewArray(tree, none);
        }

        @Override
        public Void visitThrow(ThrowTree tree, Void none) {
            keeps(!isInConstructor, "rule 6: thrown in a constructor", tree);
            boolean isNew = tree.getExpression() instanceof NewClassTree;
            keeps(isNew && isException((NewClassTree) tree.getExpression()), "rule 6: thrown", tree);
            return super.visitThrow(tree, none);
        }

        private static boolean isException(NewClassTree made) {
            List<? extends ExpressionTree> given = made.getArguments();
            return EXCEPTIONS.contains(made.getIdentifier().toString())
                && (given.isEmpty() || given.size() == 1 && given.get(0) instanceof LiteralTree);
        }

        @Override
        public Void visitTry(TryTree tree, Void none) {
            keeps(false, "rule 6: nothing is caught", tree);
            return super.visitTry(tree, none);
        }

        @Override
        public Void visitBinary(BinaryTree tree, Void none) {
            boolean isOfTexts = isText(tree.getLeftOperand()) || isText(tree.getRightOperand());
            keeps(!isOfTexts, "rules 6 and 10: texts joined or compared", tree);
            boolean isDivision = tree.getKind() == Tree.Kind.DIVIDE || tree.getKind() == Tree.Kind.REMAINDER;
            boolean isTested = Set.of("GiantStairs.meanSteps()", "GiantStairs.leasedShare()").contains(method);
            keeps(!isDivision || isTested || isConstant(tree.getRightOperand()), "rule 7: a divisor", tree);
            return super.visitBinary(tree, none);
        }

        private static boolean isConstant(ExpressionTree divisor) {
            return divisor.toString().matches("[1-9][0-9]*|[A-Z_]+");
        }

        @Override
        public Void visitCompoundAssignment(CompoundAssignmentTree tree, Void none) {
            keeps(!isText(tree.getVariable()), "rule 10: texts joined", tree);
            return super.visitCompoundAssignment(tree, none);
        }

        @Override
        public Void visitForLoop(ForLoopTree tree, Void none) {
            boolean isCounted = tree.getInitializer().size() == 1 && tree.getUpdate().size() == 1;
            keeps(isCounted && tree.getCondition() != null, "rule 9: a loop without a counter", tree);
            return super.visitForLoop(tree, none);
        }

        @Override
        public Void visitWhileLoop(WhileLoopTree tree, Void none) {
            keeps(false, "rule 9: a loop without a counter", tree);
            return super.visitWhileLoop(tree, none);
        }

        @Override
        public Void visitDoWhileLoop(DoWhileLoopTree tree, Void none) {
            keeps(false, "rule 9: a loop without a counter", tree);
            return super.visitDoWhileLoop(tree, none);
        }

        @Override
        public Void visitTypeCast(TypeCastTree tree, Void none) {
            keeps(type(tree.getType()).getKind().isPrimitive(), "rule 6: a cast", tree);
            return super.visitTypeCast(tree, none);
        }

        @Override
        public Void visitInstanceOf(InstanceOfTree tree, Void none) {
            keeps(false, "rule 6: nothing is cast", tree);
            return super.visitInstanceOf(tree, none);
        }

        @Override
        public Void visitLambdaExpression(LambdaExpressionTree tree, Void none) {
            keeps(false, "rule 2: a lambda", tree);
            return super.visitLambdaExpression(tree, none);
        }

        @Override
        public Void visitMemberReference(MemberReferenceTree tree, Void none) {
            keeps(false, "rule 2: a method reference", tree);
            return super.visitMemberReference(tree, none);
        }
    }
}
