import com.sun.source.tree.*;
import com.sun.source.util.JavacTask;
import com.sun.source.util.SourcePositions;
import com.sun.source.util.TreeScanner;
import com.sun.source.util.Trees;
import java.io.File;
import java.util.List;
import java.util.Set;
import javax.lang.model.element.Modifier;
import javax.tools.JavaCompiler;
import javax.tools.StandardJavaFileManager;
import javax.tools.ToolProvider;

/** The rules of LANGUAGE.md that can be read off the program's tree, as narrowly as the program needs them. */
final class LanguageTest extends TreeScanner<Void, Void> {
    private static final Set<String> LIBRARY = Set.of("Math.max", "Math.min", "Integer.bitCount", "Integer.compare",
        "System.arraycopy");
    private static final Set<String> OUTSIDE_NAMES = Set.of("Math", "Integer", "Long", "System", "Arrays", "List",
        "String", "Character", "Object", "Thread", "Runtime", "java", "javax");
    private static final Set<Tree.Kind> BARRED = Set.of(Tree.Kind.THROW, Tree.Kind.TRY, Tree.Kind.CATCH,
        Tree.Kind.SYNCHRONIZED, Tree.Kind.ASSERT, Tree.Kind.LAMBDA_EXPRESSION, Tree.Kind.MEMBER_REFERENCE,
        Tree.Kind.IMPORT, Tree.Kind.PACKAGE, Tree.Kind.STRING_LITERAL, Tree.Kind.WHILE_LOOP, Tree.Kind.DO_WHILE_LOOP,
        Tree.Kind.ANNOTATION, Tree.Kind.TYPE_CAST, Tree.Kind.INSTANCE_OF, Tree.Kind.FLOAT_LITERAL,
        Tree.Kind.DOUBLE_LITERAL, Tree.Kind.SWITCH_EXPRESSION);

    private final CompilationUnitTree unit;
    private final SourcePositions positions;
    private int classes = 0;
    private int methods = 0;

    private LanguageTest(CompilationUnitTree unit, SourcePositions positions) {
        this.unit = unit;
        this.positions = positions;
    }

    public static void main(String[] args) throws Exception {
        JavaCompiler compiler = ToolProvider.getSystemJavaCompiler();
        StandardJavaFileManager files = compiler.getStandardFileManager(null, null, null);
        File source = new File(System.getProperty("source", "src/main/java/MorningBite.java"));
        JavacTask task = (JavacTask) compiler.getTask(null, files, null, null, null, files.getJavaFileObjects(source));
        for (CompilationUnitTree unit : task.parse()) {
            LanguageTest test = new LanguageTest(unit, Trees.instance(task).getSourcePositions());
            test.scan(unit, null);
            Check.due("kinds at the top", unit.getTypeDecls().size(), 1);
            Check.holds("at most twelve classes: " + test.classes, test.classes <= 12);
            Check.holds("methods were read", test.methods > 27);
        }
        Check.end();
    }

    private long line(long position) {
        return unit.getLineMap().getLineNumber(position);
    }

    private void holds(String what, Tree tree, boolean so) {
        Check.holds(what + " (line " + line(positions.getStartPosition(unit, tree)) + ")", so);
    }

    @Override
    public Void scan(Tree tree, Void nothing) {
        if (tree != null) {
            holds("none of " + tree.getKind(), tree, !BARRED.contains(tree.getKind()));
        }
        return super.scan(tree, nothing);
    }

    @Override
    public Void visitClass(ClassTree tree, Void nothing) {
        classes++;
        int fields = 0;
        boolean outer = tree.getSimpleName().contentEquals("MorningBite");
        holds("a static class inside", tree, outer || tree.getModifiers().getFlags().contains(Modifier.STATIC));
        for (Tree member : tree.getMembers()) {
            if (member instanceof VariableTree) {
                Set<Modifier> flags = ((VariableTree) member).getModifiers().getFlags();
                fields += flags.contains(Modifier.STATIC) ? 0 : 1;
                boolean constant = flags.contains(Modifier.FINAL)
                    && List.of("int", "long").contains(((VariableTree) member).getType().toString());
                holds("a static field is a constant", member, !flags.contains(Modifier.STATIC) || constant);
            }
            holds("no initialiser block", member, member.getKind() != Tree.Kind.BLOCK);
        }
        holds("at most twenty fields", tree, fields <= 20);
        return super.visitClass(tree, nothing);
    }

    @Override
    public Void visitMethod(MethodTree tree, Void nothing) {
        methods++;
        long lines = line(positions.getEndPosition(unit, tree)) - line(positions.getStartPosition(unit, tree)) + 1;
        holds("a short method: " + tree.getName(), tree, lines <= 60);
        holds("at most seven parameters: " + tree.getName(), tree, tree.getParameters().size() <= 7);
        return super.visitMethod(tree, nothing);
    }

    @Override
    public Void visitForLoop(ForLoopTree tree, Void nothing) {
        holds("a loop with a bound", tree, tree.getCondition() != null && tree.getUpdate().size() == 1);
        return super.visitForLoop(tree, nothing);
    }

    @Override
    public Void visitNewClass(NewClassTree tree, Void nothing) {
        holds("no anonymous class", tree, tree.getClassBody() == null);
        return super.visitNewClass(tree, nothing);
    }

    @Override
    public Void visitMemberSelect(MemberSelectTree tree, Void nothing) {
        if (OUTSIDE_NAMES.contains(tree.getExpression().toString())) {
            holds("of the library: " + tree, tree, LIBRARY.contains(tree.toString()));
        }
        return super.visitMemberSelect(tree, nothing);
    }
}
