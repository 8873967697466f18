import com.sun.source.tree.AssertTree;
import com.sun.source.tree.BinaryTree;
import com.sun.source.tree.ClassTree;
import com.sun.source.tree.CompilationUnitTree;
import com.sun.source.tree.DoWhileLoopTree;
import com.sun.source.tree.ExpressionTree;
import com.sun.source.tree.ForLoopTree;
import com.sun.source.tree.IfTree;
import com.sun.source.tree.LambdaExpressionTree;
import com.sun.source.tree.LiteralTree;
import com.sun.source.tree.MemberReferenceTree;
import com.sun.source.tree.MethodInvocationTree;
import com.sun.source.tree.MethodTree;
import com.sun.source.tree.NewArrayTree;
import com.sun.source.tree.NewClassTree;
import com.sun.source.tree.SynchronizedTree;
import com.sun.source.tree.ThrowTree;
import com.sun.source.tree.Tree;
import com.sun.source.tree.TryTree;
import com.sun.source.tree.TypeCastTree;
import com.sun.source.tree.VariableTree;
import com.sun.source.tree.WhileLoopTree;
import com.sun.source.util.JavacTask;
import com.sun.source.util.TreePath;
import com.sun.source.util.TreePathScanner;
import com.sun.source.util.Trees;
import java.io.IOException;
import java.nio.file.Path;
import java.util.List;
import java.util.Map;
import java.util.Set;
import java.util.TreeMap;
import java.util.TreeSet;
import javax.lang.model.element.Element;
import javax.lang.model.element.Modifier;
import javax.lang.model.type.TypeMirror;
import javax.tools.JavaCompiler;
import javax.tools.StandardJavaFileManager;
import javax.tools.ToolProvider;

/** The program keeps to LANGUAGE.md, as javac itself understands its lines (FaceTest looks at what came of them). */
public final class RulesTest {
    private static final Path PROGRAM = Path.of("src/main/java/BreadScribes.java");
    private static final int MOST_LINES = 60;
    private static final int MOST_DEEP = 8;

    /** What the program calls of the library (rule 4). */
    private static final Set<String> LIBRARY = Set.of("java.lang.Object.Object()", "java.lang.String.length()",
            "java.lang.String.charAt(int)", "java.lang.System.arraycopy(java.lang.Object,int,java.lang.Object,int,int)",
            "java.util.Arrays.fill(int[],int)", "java.util.Arrays.fill(long[],long)", "java.lang.Integer.bitCount(int)",
            "java.lang.Math.min(int,int)", "java.lang.Math.max(int,int)", "java.lang.Math.abs(long)");

    /** The one method that calls itself; its depth is an argument (rule 8). */
    private static final String RECURSIVE = "BreadScribes.Rows.seek(BreadScribes.Rows,int,int,long)";

    /** Types of fields, variables, answers that are no classes of the program (rule 3). */
    private static final Set<String> TYPES = Set.of("int", "long", "byte", "char", "boolean", "void", "int[]", "long[]",
            "byte[]", "java.lang.String");

    private static final Set<Tree.Kind> COMPARISONS = Set.of(Tree.Kind.LESS_THAN, Tree.Kind.LESS_THAN_EQUAL,
            Tree.Kind.GREATER_THAN, Tree.Kind.GREATER_THAN_EQUAL);

    private RulesTest() {
    }

    public static void main(String[] args) throws IOException {
        JavaCompiler compiler = ToolProvider.getSystemJavaCompiler();
        try (StandardJavaFileManager files = compiler.getStandardFileManager(null, null, null)) {
            JavacTask task = (JavacTask) compiler.getTask(null, files, null, List.of("-proc:none"), null,
                    files.getJavaFileObjects(PROGRAM));
            CompilationUnitTree unit = task.parse().iterator().next();
            task.analyze();
            Check.due("rule 1: classes of the file", unit.getTypeDecls().size(), 1);
            Check.due("rule 1: a package line", unit.getPackageName() == null, true);
            Reading reading = new Reading(unit, Trees.instance(task));
            reading.scan(unit, null);
            Check.due("rule 11: classes, twelve at most", reading.classes <= 12, true);
            Check.due("methods were read", reading.calls.size() > 100, true);
            reading.calls.keySet().forEach(method -> calls(reading.calls, method));
        }
        Check.end("RulesTest");
    }

    /** Rules 8, 11: no method comes to itself again but the one, and none calls too deep. */
    private static void calls(Map<String, Set<String>> calls, String method) {
        Check.due(method + " calls itself", calls.get(method).contains(method), method.equals(RECURSIVE));
        int deep = depth(calls, method, 1);
        Check.due(method + ", " + deep + " deep, " + MOST_DEEP + " at most", deep <= MOST_DEEP, true);
    }

    private static int depth(Map<String, Set<String>> calls, String method, int ahead) {
        int deepest = ahead;
        for (String called : calls.getOrDefault(method, Set.of())) {
            // A ring of calls would go deeper than any chain without one.
            if (!called.equals(method) && ahead < 30) {
                deepest = Math.max(deepest, depth(calls, called, ahead + 1));
            }
        }
        return deepest;
    }

    private static final class Reading extends TreePathScanner<Void, Void> {
        private final CompilationUnitTree unit;
        private final Trees trees;
        private final Map<String, Set<String>> calls = new TreeMap<>();
        private final Set<String> open = new TreeSet<>();
        private int classes = 0;
        private String method = "";
        private boolean isMaking = true;

        private Reading(CompilationUnitTree unit, Trees trees) {
            this.unit = unit;
            this.trees = trees;
        }

        private void never(int rule, Tree tree) {
            Check.due("rule " + rule + ": line " + line(tree) + ": " + tree, true, false);
        }

        private long line(Tree tree) {
            return unit.getLineMap().getLineNumber(trees.getSourcePositions().getStartPosition(unit, tree));
        }

        private long lastLine(Tree tree) {
            return unit.getLineMap().getLineNumber(trees.getSourcePositions().getEndPosition(unit, tree));
        }

        private TypeMirror type(Tree tree) {
            return trees.getTypeMirror(new TreePath(getCurrentPath(), tree));
        }

        private static String name(Element method) {
            return method.getEnclosingElement() + "." + method;
        }

        @Override
        public Void visitClass(ClassTree tree, Void none) {
            classes++;
            Tree.Kind around = getCurrentPath().getParentPath().getLeaf().getKind();
            Set<Modifier> modifiers = tree.getModifiers().getFlags();
            boolean isOuter = around == Tree.Kind.COMPILATION_UNIT;
            boolean isInner = around == Tree.Kind.CLASS && modifiers.contains(Modifier.STATIC)
                    && modifiers.contains(Modifier.PRIVATE);
            Check.due("rule 2: " + tree.getSimpleName(), isOuter || isInner, true);
            long fields = tree.getMembers().stream().filter(member -> member instanceof VariableTree
                    && !((VariableTree) member).getModifiers().getFlags().contains(Modifier.STATIC)).count();
            Check.due("rule 11: " + tree.getSimpleName() + ", twenty fields at most", fields <= 20, true);
            if (isOuter) {
                tree.getMembers().forEach(member -> addIfOpen(member));
            }
            for (Tree member : tree.getMembers()) {
                Check.due("rule 5: a block in " + tree.getSimpleName(), member.getKind() != Tree.Kind.BLOCK, true);
            }
            return super.visitClass(tree, none);
        }

        private void addIfOpen(Tree member) {
            if (member instanceof MethodTree && ((MethodTree) member).getModifiers().getFlags().contains(Modifier.PUBLIC)) {
                open.add(((MethodTree) member).getName().toString());
            }
        }

        @Override
        public Void visitMethod(MethodTree tree, Void none) {
            method = name(trees.getElement(getCurrentPath()));
            calls.put(method, new TreeSet<>());
            isMaking = tree.getReturnType() == null;
            boolean isOpen = tree.getModifiers().getFlags().contains(Modifier.PUBLIC);
            Check.due("rule 1: " + method + " bears a name of its own",
                    isOpen || isMaking || !open.contains(tree.getName().toString()), true);
            Check.due("rule 11: " + method + ", seven parameters at most", tree.getParameters().size() <= 7, true);
            long lines = lastLine(tree) - line(tree) + 1;
            Check.due("rule 11: " + method + ", " + lines + " lines, " + MOST_LINES + " at most", lines <= MOST_LINES, true);
            super.visitMethod(tree, none);
            isMaking = true;
            return null;
        }

        @Override
        public Void visitVariable(VariableTree tree, Void none) {
            String type = String.valueOf(type(tree.getType())).replaceAll("^BreadScribes\\.\\w+(\\[\\])?$", "int");
            Check.due("rule 3: " + tree.getName() + " of " + type, TYPES.contains(type), true);
            Set<Modifier> modifiers = tree.getModifiers().getFlags();
            if (modifiers.contains(Modifier.STATIC)) {
                boolean isConstant = modifiers.contains(Modifier.FINAL) && !type.endsWith("]")
                        && tree.getInitializer() != null;
                Check.due("rule 5: " + tree.getName() + " is a constant", isConstant, true);
            }
            return super.visitVariable(tree, none);
        }

        @Override
        public Void visitMethodInvocation(MethodInvocationTree tree, Void none) {
            called(trees.getElement(getCurrentPath()), tree);
            return super.visitMethodInvocation(tree, none);
        }

        @Override
        public Void visitNewClass(NewClassTree tree, Void none) {
            Check.due("rule 12: line " + line(tree) + ": made as an object begins", isMaking, true);
            Check.due("rule 2: line " + line(tree) + ": no class without a name", tree.getClassBody() == null, true);
            called(trees.getElement(getCurrentPath()), tree);
            return super.visitNewClass(tree, none);
        }

        private void called(Element element, Tree tree) {
            String called = name(element);
            boolean isOwn = called.startsWith("BreadScribes.");
            Check.due("rule 4: line " + line(tree) + ": " + called, isOwn || LIBRARY.contains(called), true);
            if (isOwn && calls.containsKey(method)) {
                calls.get(method).add(called);
            }
        }

        @Override
        public Void visitNewArray(NewArrayTree tree, Void none) {
            Check.due("rule 12: line " + line(tree) + ": made as an object begins", isMaking, true);
            return super.visitNewArray(tree, none);
        }

        /** Rule 9: a for has a counter, and its end is seen from what it is compared with. */
        @Override
        public Void visitForLoop(ForLoopTree tree, Void none) {
            boolean counts = tree.getInitializer().size() == 1 && tree.getInitializer().get(0) instanceof VariableTree
                    && tree.getUpdate().size() == 1 && tree.getCondition() != null;
            Check.due("rule 9: line " + line(tree) + ": a counter", counts, true);
            if (counts) {
                String counter = ((VariableTree) tree.getInitializer().get(0)).getName().toString();
                Check.due("rule 9: line " + line(tree) + ": " + tree.getCondition(),
                        isBounded(tree.getCondition(), counter), true);
                Check.due("rule 9: line " + line(tree) + ": the counter changes there alone",
                        tree.getStatement().toString().matches("(?s).*\\b" + counter + "(\\+\\+|--| [-+*/]?= ).*"), false);
            }
            return super.visitForLoop(tree, none);
        }

        /** Whether it can't hold without a comparison of the counter. */
        private static boolean isBounded(ExpressionTree condition, String counter) {
            if (condition.getKind() == Tree.Kind.CONDITIONAL_AND) {
                BinaryTree both = (BinaryTree) condition;
                return isBounded(both.getLeftOperand(), counter) || isBounded(both.getRightOperand(), counter);
            }
            return COMPARISONS.contains(condition.getKind())
                    && ((BinaryTree) condition).getLeftOperand().toString().equals(counter);
        }

        @Override
        public Void visitTypeCast(TypeCastTree tree, Void none) {
            Check.due("rule 6: line " + line(tree) + ": " + tree, type(tree.getType()).getKind().isPrimitive(), true);
            return super.visitTypeCast(tree, none);
        }

        @Override
        public Void visitBinary(BinaryTree tree, Void none) {
            String type = String.valueOf(trees.getTypeMirror(getCurrentPath()));
            Check.due("rule 10: line " + line(tree) + ": " + tree, Set.of("int", "long", "boolean").contains(type), true);
            return super.visitBinary(tree, none);
        }

        @Override
        public Void visitLiteral(LiteralTree tree, Void none) {
            if (tree.getValue() instanceof String) {
                boolean isPlain = ((String) tree.getValue()).chars().allMatch(c -> c >= 1 && c <= 127);
                Check.due("rule 4: line " + line(tree) + ": signs 1 to 127", isPlain, true);
            }
            return super.visitLiteral(tree, none);
        }

        @Override
        public Void visitIf(IfTree tree, Void none) {
            Check.due("line " + line(tree) + ": an if has a block", tree.getThenStatement().getKind() == Tree.Kind.BLOCK, true);
            return super.visitIf(tree, none);
        }

        @Override
        public Void visitWhileLoop(WhileLoopTree tree, Void none) {
            never(9, tree);
            return super.visitWhileLoop(tree, none);
        }

        @Override
        public Void visitDoWhileLoop(DoWhileLoopTree tree, Void none) {
            never(9, tree);
            return super.visitDoWhileLoop(tree, none);
        }

        @Override
        public Void visitLambdaExpression(LambdaExpressionTree tree, Void none) {
            never(2, tree);
            return super.visitLambdaExpression(tree, none);
        }

        @Override
        public Void visitMemberReference(MemberReferenceTree tree, Void none) {
            never(2, tree);
            return super.visitMemberReference(tree, none);
        }

        @Override
        public Void visitThrow(ThrowTree tree, Void none) {
            never(6, tree);
            return super.visitThrow(tree, none);
        }

        @Override
        public Void visitTry(TryTree tree, Void none) {
            never(6, tree);
            return super.visitTry(tree, none);
        }

        @Override
        public Void visitSynchronized(SynchronizedTree tree, Void none) {
            never(6, tree);
            return super.visitSynchronized(tree, none);
        }

        @Override
        public Void visitAssert(AssertTree tree, Void none) {
            never(6, tree);
            return super.visitAssert(tree, none);
        }
    }
}
