import com.sun.source.tree.BinaryTree;
import com.sun.source.tree.ClassTree;
import com.sun.source.tree.CompilationUnitTree;
import com.sun.source.tree.CompoundAssignmentTree;
import com.sun.source.tree.ExpressionTree;
import com.sun.source.tree.ForLoopTree;
import com.sun.source.tree.IdentifierTree;
import com.sun.source.tree.MemberSelectTree;
import com.sun.source.tree.MethodInvocationTree;
import com.sun.source.tree.MethodTree;
import com.sun.source.tree.NewArrayTree;
import com.sun.source.tree.NewClassTree;
import com.sun.source.tree.Tree;
import com.sun.source.tree.TypeCastTree;
import com.sun.source.tree.WhileLoopTree;
import com.sun.source.util.JavacTask;
import com.sun.source.util.SourcePositions;
import com.sun.source.util.TreeScanner;
import com.sun.source.util.Trees;
import java.io.IOException;
import java.nio.file.Path;
import java.util.HashSet;
import java.util.List;
import java.util.Map;
import java.util.Set;
import java.util.TreeMap;
import java.util.TreeSet;
import javax.lang.model.element.Modifier;
import javax.tools.JavaCompiler;
import javax.tools.StandardJavaFileManager;
import javax.tools.ToolProvider;

/** Rules of LANGUAGE.md that need the code's tree: who calls whom and how deep, the library, divisors, casts, what is made where. */
public final class RulesTest {
    private static final int DEEP = 8;
    private static final int LINES = 60;
    private static final int PARAMETERS = 7;

    private static final Set<String> LIBRARY = Set.of("Math.min", "Math.max", "Integer.bitCount", "Arrays.fill", "System.arraycopy");
    private static final Set<String> OUTSIDE = Set.of("Math", "Integer", "Long", "Arrays", "System", "String", "Object", "Character");

    /** Methods that make objects behind a test that they are not there yet. */
    private static final Set<String> MAKERS = Set.of("<init>", "keep", "onPaper");

    private final Map<String, Set<String>> calls = new TreeMap<>();
    private final Set<String> open = new TreeSet<>();

    private final class Reader extends TreeScanner<Void, Void> {
        private final CompilationUnitTree unit;
        private final SourcePositions at;
        private String method = "";

        Reader(CompilationUnitTree unit, SourcePositions at) {
            this.unit = unit;
            this.at = at;
        }

        private long line(long position) {
            return unit.getLineMap().getLineNumber(position);
        }

        private String where(Tree t) {
            return "line " + line(at.getStartPosition(unit, t)) + ", '" + t + "': ";
        }

        @Override
        public Void visitMethod(MethodTree m, Void v) {
            method = m.getName().toString();
            calls.computeIfAbsent(method, name -> new TreeSet<>());
            if (m.getModifiers().getFlags().contains(Modifier.PUBLIC) && !method.equals("<init>")) open.add(method);
            long lines = line(at.getEndPosition(unit, m)) - line(at.getStartPosition(unit, m)) + 1;
            Check.due(method + " has at most " + LINES + " lines", lines <= LINES, true);
            Check.due(method + " takes at most " + PARAMETERS, m.getParameters().size() <= PARAMETERS, true);
            return super.visitMethod(m, v);
        }

        @Override
        public Void visitMethodInvocation(MethodInvocationTree c, Void v) {
            ExpressionTree called = c.getMethodSelect();
            String name = called.toString();
            if (called instanceof MemberSelectTree) {
                MemberSelectTree member = (MemberSelectTree) called;
                boolean outside = OUTSIDE.contains(member.getExpression().toString());
                if (outside) Check.due(where(c) + "is in the library that may be used", LIBRARY.contains(name), true);
                if (!outside) name = member.getIdentifier().toString();
            }
            calls.get(method).add(name);
            return super.visitMethodInvocation(c, v);
        }

        @Override
        public Void visitBinary(BinaryTree b, Void v) {
            if (b.getKind() == Tree.Kind.DIVIDE || b.getKind() == Tree.Kind.REMAINDER) divisor(b, b.getRightOperand());
            return super.visitBinary(b, v);
        }

        @Override
        public Void visitCompoundAssignment(CompoundAssignmentTree c, Void v) {
            if (c.getKind() == Tree.Kind.DIVIDE_ASSIGNMENT || c.getKind() == Tree.Kind.REMAINDER_ASSIGNMENT) divisor(c, c.getExpression());
            return super.visitCompoundAssignment(c, v);
        }

        private void divisor(Tree whole, ExpressionTree by) {
            boolean constant = by instanceof IdentifierTree && by.toString().matches("[A-Z_]+");
            Check.due(where(whole) + "the divisor is written there", constant || by.toString().matches("[1-9][0-9]*"), true);
        }

        @Override
        public Void visitTypeCast(TypeCastTree c, Void v) {
            Check.due(where(c) + "a cast of numbers", c.getType().toString().matches("int|long"), true);
            return super.visitTypeCast(c, v);
        }

        /** A first look only: that the counter comes to its bound is for a reader to see. */
        private void bound(Tree loop, ExpressionTree condition) {
            boolean counts = condition != null && condition.toString().matches("(?s).*[<>].*");
            Check.due(where(loop) + "the loop has a bound", counts, true);
        }

        @Override
        public Void visitForLoop(ForLoopTree f, Void v) {
            bound(f, f.getCondition());
            return super.visitForLoop(f, v);
        }

        @Override
        public Void visitWhileLoop(WhileLoopTree w, Void v) {
            bound(w, w.getCondition());
            return super.visitWhileLoop(w, v);
        }

        @Override
        public Void visitNewArray(NewArrayTree n, Void v) {
            Check.due(where(n) + "rows are made in constructors", method, "<init>");
            return super.visitNewArray(n, v);
        }

        @Override
        public Void visitNewClass(NewClassTree n, Void v) {
            boolean thrown = n.getIdentifier().toString().equals("NoSuchElementException");
            Check.due(where(n) + "is made where it may be", thrown || MAKERS.contains(method), true);
            return super.visitNewClass(n, v);
        }
    }

    /** The calls that stand open at once below this one, it too; a call of itself is told apart. */
    private int depth(String name, Set<String> above) {
        int most = 0;
        for (String next : calls.getOrDefault(name, Set.of())) {
            if (next.equals(name)) continue;
            if (above.contains(next)) {
                Check.fault(name + " and " + next + " call one another");
                continue;
            }
            above.add(next);
            most = Math.max(most, depth(next, above));
            above.remove(next);
        }
        return most + 1;
    }

    private void look() {
        for (String name : open) {
            Set<String> above = new HashSet<>(Set.of(name));
            int deep = depth(name, above);
            Check.due(name + " goes " + deep + " calls deep, at most " + DEEP, deep <= DEEP, true);
        }
        for (String name : calls.keySet()) {
            if (calls.get(name).contains(name)) Check.due("calls itself, with the place as its depth", name, "choose");
        }
    }

    public static void main(String[] args) throws IOException {
        JavaCompiler compiler = ToolProvider.getSystemJavaCompiler();
        try (StandardJavaFileManager files = compiler.getStandardFileManager(null, null, null)) {
            JavacTask task = (JavacTask) compiler.getTask(null, files, null, List.of("-proc:none"), null,
                files.getJavaFileObjects(Path.of("src/main/java/SpineDesks.java")));
            RulesTest rules = new RulesTest();
            for (CompilationUnitTree unit : task.parse()) {
                rules.new Reader(unit, Trees.instance(task).getSourcePositions()).scan(unit, null);
                for (Tree t : unit.getTypeDecls()) Check.due("one class", ((ClassTree) t).getSimpleName().toString(), "SpineDesks");
            }
            rules.look();
        }
        Check.end();
    }
}
