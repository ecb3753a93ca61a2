import com.sun.source.tree.BinaryTree;
import com.sun.source.tree.CatchTree;
import com.sun.source.tree.ClassTree;
import com.sun.source.tree.CompilationUnitTree;
import com.sun.source.tree.IdentifierTree;
import com.sun.source.tree.ImportTree;
import com.sun.source.tree.LambdaExpressionTree;
import com.sun.source.tree.MemberReferenceTree;
import com.sun.source.tree.MemberSelectTree;
import com.sun.source.tree.MethodInvocationTree;
import com.sun.source.tree.MethodTree;
import com.sun.source.tree.NewArrayTree;
import com.sun.source.tree.NewClassTree;
import com.sun.source.tree.ThrowTree;
import com.sun.source.tree.Tree;
import com.sun.source.tree.VariableTree;
import com.sun.source.tree.WhileLoopTree;
import com.sun.source.util.JavacTask;
import com.sun.source.util.SourcePositions;
import com.sun.source.util.TreeScanner;
import com.sun.source.util.Trees;
import java.io.IOException;
import java.nio.file.Path;
import java.util.HashMap;
import java.util.HashSet;
import java.util.Map;
import java.util.Set;
import java.util.TreeMap;
import java.util.TreeSet;
import javax.lang.model.element.Modifier;
import javax.tools.JavaCompiler;
import javax.tools.StandardJavaFileManager;
import javax.tools.ToolProvider;

/**
 * Those rules of LANGUAGE.md that can be read off the tree of src/main/java/Slugwire.java. This program keeps to more
 * than the rules ask: it catches nothing, and makes no object outside its constructors but for exceptions.
 */
public final class LanguageTest {
    private static final Path SOURCE = Path.of("src/main/java/Slugwire.java");
    private static final Set<String> LIBRARY = Set.of("Math.max", "Math.min", "Integer.bitCount", "Arrays.fill",
        "System.arraycopy");
    private static final Set<String> EXCEPTIONS = Set.of("IllegalStateException", "IllegalArgumentException",
        "IndexOutOfBoundsException");
    private static final Set<String> FOREIGN = Set.of("Object", "Throwable", "Exception", "RuntimeException", "Thread",
        "Runtime", "Random", "Double", "Float");

    private LanguageTest() {
    }

    public static void main(String[] args) throws IOException {
        JavaCompiler compiler = ToolProvider.getSystemJavaCompiler();
        StandardJavaFileManager files = compiler.getStandardFileManager(null, null, null);
        JavacTask task = (JavacTask) compiler.getTask(null, files, null, null, null, files.getJavaFileObjects(SOURCE));
        CompilationUnitTree unit = task.parse().iterator().next();
        Rules rules = new Rules(unit, Trees.instance(task).getSourcePositions());
        rules.scan(unit, null);
        Check.due("classes in the file, some twelve", rules.classes <= 12, true);
        for (String name : rules.calls.keySet()) {
            int depth = rules.depth(name, new HashSet<>());
            Check.due("calls from " + name + " are " + depth + " deep, and no more than eight", depth <= 8, true);
            for (String called : rules.calls.get(name)) {
                Check.due("rule 4: " + called + " is of this file", rules.calls.containsKey(called), true);
            }
        }
        Check.end();
    }

    /** Looks at each place of the tree; methods are told apart by name alone, which is enough here. */
    private static final class Rules extends TreeScanner<Void, Void> {
        private final CompilationUnitTree unit;
        private final SourcePositions positions;
        private final Map<String, Set<String>> calls = new TreeMap<>();
        private final Map<String, Integer> depths = new HashMap<>();
        private int classes;
        private String method = "";

        Rules(CompilationUnitTree unit, SourcePositions positions) {
            this.unit = unit;
            this.positions = positions;
        }

        private long lineOf(long position) {
            return unit.getLineMap().getLineNumber(position);
        }

        private void rule(String what, Tree tree, boolean isKept) {
            Check.due("line " + lineOf(positions.getStartPosition(unit, tree)) + ": " + what, isKept, true);
        }

        /** How many calls stand open at once, from this method on; a method in the chain once more is recursion. */
        int depth(String name, Set<String> chain) {
            if (!calls.containsKey(name)) {
                return 0;
            }
            Check.due(name + " is recursion", chain.contains(name), false);
            if (chain.contains(name) || depths.containsKey(name)) {
                return depths.getOrDefault(name, 0);
            }
            chain.add(name);
            int deepest = 0;
            for (String called : calls.get(name)) {
                deepest = Math.max(deepest, depth(called, chain));
            }
            chain.remove(name);
            depths.put(name, deepest + 1);
            return deepest + 1;
        }

        @Override
        public Void visitImport(ImportTree tree, Void none) {
            rule("rule 4: an import", tree, tree.getQualifiedIdentifier().toString().equals("java.util.Arrays"));
            return null;
        }

        @Override
        public Void visitClass(ClassTree tree, Void none) {
            classes++;
            int fields = 0;
            for (Tree member : tree.getMembers()) {
                boolean isField = member.getKind() == Tree.Kind.VARIABLE;
                if (isField && ((VariableTree) member).getModifiers().getFlags().contains(Modifier.STATIC)) {
                    Set<Modifier> flags = ((VariableTree) member).getModifiers().getFlags();
                    rule("rule 5: a static field is final", member, flags.contains(Modifier.FINAL));
                } else if (isField) {
                    fields++;
                }
                rule("rule 5: a static block", member, member.getKind() != Tree.Kind.BLOCK);
            }
            rule("rule 11: some twenty fields", tree, fields <= 20);
            return super.visitClass(tree, none);
        }

        @Override
        public Void visitMethod(MethodTree tree, Void none) {
            method = tree.getName().toString();
            calls.putIfAbsent(method, new TreeSet<>());
            long from = lineOf(positions.getStartPosition(unit, tree));
            long to = lineOf(positions.getEndPosition(unit, tree));
            rule("rule 11: a method of some sixty lines", tree, to - from < 60);
            rule("rule 11: seven parameters", tree, tree.getParameters().size() <= 7);
            super.visitMethod(tree, none);
            method = "";
            return null;
        }

        @Override
        public Void visitMethodInvocation(MethodInvocationTree tree, Void none) {
            Tree select = tree.getMethodSelect();
            String name = select.toString();
            if (select instanceof MemberSelectTree && !LIBRARY.contains(name)) {
                name = ((MemberSelectTree) select).getIdentifier().toString();
            }
            if (!name.equals("super") && !LIBRARY.contains(name)) {
                calls.computeIfAbsent(method, m -> new TreeSet<>()).add(name);
            }
            return super.visitMethodInvocation(tree, none);
        }

        @Override
        public Void visitIdentifier(IdentifierTree tree, Void none) {
            String name = tree.getName().toString();
            rule("rule 4: " + name, tree, !FOREIGN.contains(name));
            return super.visitIdentifier(tree, none);
        }

        @Override
        public Void visitNewClass(NewClassTree tree, Void none) {
            boolean isException = EXCEPTIONS.contains(tree.getIdentifier().toString());
            boolean isMadeAhead = method.isEmpty() || method.equals("<init>");
            rule("an object is made in a constructor", tree, isException != isMadeAhead);
            return super.visitNewClass(tree, none);
        }

        @Override
        public Void visitNewArray(NewArrayTree tree, Void none) {
            rule("an array is made in a constructor", tree, method.isEmpty() || method.equals("<init>"));
            return super.visitNewArray(tree, none);
        }

        @Override
        public Void visitThrow(ThrowTree tree, Void none) {
            rule("rule 6: throws a new exception", tree, tree.getExpression() instanceof NewClassTree);
            rule("rule 6: a throw in a constructor", tree, !method.equals("<init>"));
            return super.visitThrow(tree, none);
        }

        @Override
        public Void visitBinary(BinaryTree tree, Void none) {
            boolean isText = tree.getLeftOperand().getKind() == Tree.Kind.STRING_LITERAL
                || tree.getRightOperand().getKind() == Tree.Kind.STRING_LITERAL;
            rule("rule 10: texts joined by +", tree, !isText);
            return super.visitBinary(tree, none);
        }

        @Override
        public Void visitCatch(CatchTree tree, Void none) {
            rule("a catch", tree, false);
            return null;
        }

        @Override
        public Void visitWhileLoop(WhileLoopTree tree, Void none) {
            rule("a loop without a counter", tree, false);
            return null;
        }

        @Override
        public Void visitLambdaExpression(LambdaExpressionTree tree, Void none) {
            rule("rule 2: a lambda", tree, false);
            return null;
        }

        @Override
        public Void visitMemberReference(MemberReferenceTree tree, Void none) {
            rule("rule 2: a method reference", tree, false);
            return null;
        }
    }
}
