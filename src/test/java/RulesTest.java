import com.sun.source.tree.AssertTree;
import com.sun.source.tree.ClassTree;
import com.sun.source.tree.CompilationUnitTree;
import com.sun.source.tree.ImportTree;
import com.sun.source.tree.LambdaExpressionTree;
import com.sun.source.tree.LineMap;
import com.sun.source.tree.MemberReferenceTree;
import com.sun.source.tree.MemberSelectTree;
import com.sun.source.tree.MethodInvocationTree;
import com.sun.source.tree.MethodTree;
import com.sun.source.tree.NewClassTree;
import com.sun.source.tree.SynchronizedTree;
import com.sun.source.tree.ThrowTree;
import com.sun.source.tree.TryTree;
import com.sun.source.tree.VariableTree;
import com.sun.source.tree.WhileLoopTree;
import com.sun.source.tree.DoWhileLoopTree;
import com.sun.source.util.JavacTask;
import com.sun.source.util.SourcePositions;
import com.sun.source.util.TreeScanner;
import com.sun.source.util.Trees;
import java.io.File;
import java.util.List;
import java.util.Set;
import javax.lang.model.element.Modifier;
import javax.tools.JavaCompiler;
import javax.tools.StandardJavaFileManager;
import javax.tools.ToolProvider;

/** Those rules of LANGUAGE.md that can be seen in the source: what is not written there. */
public final class RulesTest {
    private static final Set<String> LIBRARY = Set.of("System.arraycopy", "Math.min", "Math.max", "Math.floorMod",
        "Integer.bitCount");

    public static void main(String[] args) throws Exception {
        Check.part("the language");
        String source = args.length > 0 ? args[0] : "src/main/java/JudgeHalves.java";
        JavaCompiler compiler = ToolProvider.getSystemJavaCompiler();
        try (StandardJavaFileManager files = compiler.getStandardFileManager(null, null, null)) {
            JavacTask task = (JavacTask) compiler.getTask(null, files, null, List.of("-proc:none"), null,
                files.getJavaFileObjects(new File(source)));
            for (CompilationUnitTree unit : task.parse()) {
                Check.due("classes of the file", unit.getTypeDecls().size(), 1);
                Check.holds("no package line", unit.getPackageName() == null);
                new Reader(unit, Trees.instance(task).getSourcePositions()).scan(unit, null);
            }
        }
        Check.end();
    }

    private static final class Reader extends TreeScanner<Void, Void> {
        private final CompilationUnitTree unit;
        private final SourcePositions positions;
        private int methodsOpen;

        Reader(CompilationUnitTree unit, SourcePositions positions) {
            this.unit = unit;
            this.positions = positions;
        }

        private void not(String what) {
            Check.holds("no " + what, false);
        }

        @Override public Void visitImport(ImportTree t, Void p) {
            not(t.toString());
            return super.visitImport(t, p);
        }

        @Override public Void visitThrow(ThrowTree t, Void p) {
            not("throw");
            return super.visitThrow(t, p);
        }

        @Override public Void visitTry(TryTree t, Void p) {
            not("try");
            return super.visitTry(t, p);
        }

        @Override public Void visitSynchronized(SynchronizedTree t, Void p) {
            not("synchronized");
            return super.visitSynchronized(t, p);
        }

        @Override public Void visitAssert(AssertTree t, Void p) {
            not("assert");
            return super.visitAssert(t, p);
        }

        @Override public Void visitLambdaExpression(LambdaExpressionTree t, Void p) {
            not("lambda");
            return super.visitLambdaExpression(t, p);
        }

        @Override public Void visitMemberReference(MemberReferenceTree t, Void p) {
            not("method reference");
            return super.visitMemberReference(t, p);
        }

        @Override public Void visitNewClass(NewClassTree t, Void p) {
            Check.holds("no class without a name: " + t, t.getClassBody() == null);
            return super.visitNewClass(t, p);
        }

        @Override public Void visitWhileLoop(WhileLoopTree t, Void p) {
            not("while, as a counter is seen best in a for");
            return super.visitWhileLoop(t, p);
        }

        @Override public Void visitDoWhileLoop(DoWhileLoopTree t, Void p) {
            not("do, as a counter is seen best in a for");
            return super.visitDoWhileLoop(t, p);
        }

        @Override public Void visitClass(ClassTree t, Void p) {
            Check.due("no local class: " + t.getSimpleName(), methodsOpen, 0);
            return super.visitClass(t, p);
        }

        @Override public Void visitMethod(MethodTree t, Void p) {
            LineMap lines = unit.getLineMap();
            long first = lines.getLineNumber(positions.getStartPosition(unit, t));
            long last = lines.getLineNumber(positions.getEndPosition(unit, t));
            Check.holds(t.getName() + " has sixty lines at most", last - first < 60);
            methodsOpen++;
            super.visitMethod(t, p);
            methodsOpen--;
            return null;
        }

        @Override public Void visitVariable(VariableTree t, Void p) {
            Set<Modifier> flags = t.getModifiers().getFlags();
            Check.holds(t.getName() + ", if static, is final",
                !flags.contains(Modifier.STATIC) || flags.contains(Modifier.FINAL));
            return super.visitVariable(t, p);
        }

        @Override public Void visitMethodInvocation(MethodInvocationTree t, Void p) {
            if (t.getMethodSelect() instanceof MemberSelectTree) {
                String called = t.getMethodSelect().toString();
                String owner = called.substring(0, called.indexOf('.'));
                boolean isLibrary = Set.of("System", "Math", "Integer", "Long", "Arrays", "String").contains(owner);
                Check.holds(called + " is in the library's list", !isLibrary || LIBRARY.contains(called));
            }
            return super.visitMethodInvocation(t, p);
        }
    }
}
