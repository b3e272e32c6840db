import com.sun.source.tree.AssertTree;
import com.sun.source.tree.BinaryTree;
import com.sun.source.tree.ClassTree;
import com.sun.source.tree.CompilationUnitTree;
import com.sun.source.tree.ImportTree;
import com.sun.source.tree.LambdaExpressionTree;
import com.sun.source.tree.MemberReferenceTree;
import com.sun.source.tree.MemberSelectTree;
import com.sun.source.tree.MethodInvocationTree;
import com.sun.source.tree.MethodTree;
import com.sun.source.tree.ModifiersTree;
import com.sun.source.tree.SynchronizedTree;
import com.sun.source.tree.ThrowTree;
import com.sun.source.tree.Tree;
import com.sun.source.tree.TryTree;
import com.sun.source.tree.VariableTree;
import com.sun.source.util.JavacTask;
import com.sun.source.util.SourcePositions;
import com.sun.source.util.TreeScanner;
import com.sun.source.util.Trees;
import java.io.File;
import java.util.ArrayList;
import java.util.HashSet;
import java.util.List;
import java.util.Set;
import java.util.TreeSet;
import javax.lang.model.element.Modifier;
import javax.tools.JavaCompiler;
import javax.tools.StandardJavaFileManager;
import javax.tools.ToolProvider;

/** The rules of ../shared/LANGUAGE.md that can be seen in the source: the face, sizes, what is left out. */
public final class LanguageTest extends TreeScanner<Void, Void> {
    private static final String SOURCE = "src/main/java/CoatWorks.java";
    private static final int MOST_LINES = 60;
    private static final int MOST_PARAMETERS = 7;
    private static final int MOST_CLASSES = 12;
    private static final int MOST_FIELDS = 20;
    private static final Set<String> IMPORTS = Set.of("java.util.Arrays", "java.util.NoSuchElementException");
    private static final Set<String> LIBRARY = Set.of("Math.min", "Math.max", "Math.abs", "Integer.bitCount",
            "Arrays.fill", "System.arraycopy");
    private static final String FACE = "feed end house fault later ticket about news stands open loads patience found sure"
            + " best bestAt out twice contract owed hurry drum run recall recalled rule meets loaded claim possible causes"
            + " cause solvent lost broken place round roundAt unfetched image restore count";

    private final CompilationUnitTree unit;
    private final SourcePositions positions;
    private final List<ClassTree> classes = new ArrayList<>();
    private final Set<String> publicMethods = new TreeSet<>();
    private final List<String> otherMethods = new ArrayList<>();
    private MethodTree method = null;

    private LanguageTest(CompilationUnitTree unit, SourcePositions positions) {
        this.unit = unit;
        this.positions = positions;
    }

    public static void main(String[] args) throws Exception {
        JavaCompiler compiler = ToolProvider.getSystemJavaCompiler();
        StandardJavaFileManager files = compiler.getStandardFileManager(null, null, null);
        JavacTask task = (JavacTask) compiler.getTask(null, files, null, null, null,
                files.getJavaFileObjects(new File(SOURCE)));
        for (CompilationUnitTree unit : task.parse()) {
            LanguageTest test = new LanguageTest(unit, Trees.instance(task).getSourcePositions());
            test.scan(unit, null);
            test.closeBooks();
        }
        Bench.finish("LanguageTest");
    }

    private String at(Tree tree) {
        return "line " + line(positions.getStartPosition(unit, tree)) + ": ";
    }

    private long line(long position) {
        return unit.getLineMap().getLineNumber(position);
    }

    private void no(Tree tree, String what) {
        Bench.due(at(tree) + what, 1, 0);
    }

    @Override
    public Void visitImport(ImportTree tree, Void p) {
        String name = tree.getQualifiedIdentifier().toString();
        Bench.due(at(tree) + "import " + name, IMPORTS.contains(name), true);
        return super.visitImport(tree, p);
    }

    @Override
    public Void visitClass(ClassTree tree, Void p) {
        classes.add(tree);
        Set<Modifier> flags = tree.getModifiers().getFlags();
        boolean isFace = classes.size() == 1;
        Bench.due(at(tree) + "modifiers of " + tree.getSimpleName(),
                isFace ? flags.equals(Set.of(Modifier.PUBLIC, Modifier.FINAL))
                        : flags.contains(Modifier.STATIC) && !flags.contains(Modifier.PUBLIC), true);
        int fields = 0;
        for (Tree member : tree.getMembers()) {
            if (member.getKind() == Tree.Kind.BLOCK) {
                no(member, "an initialiser block");
            }
            if (member instanceof VariableTree) {
                Set<Modifier> of = ((VariableTree) member).getModifiers().getFlags();
                fields += of.contains(Modifier.STATIC) ? 0 : 1;
                Bench.due(at(member) + "static fields are final",
                        of.contains(Modifier.STATIC) && !of.contains(Modifier.FINAL), false);
            }
            if (isFace) {
                checkFaceMember(member);
            }
        }
        Bench.due(at(tree) + fields + " fields", fields <= MOST_FIELDS, true);
        return super.visitClass(tree, p);
    }

    private void checkFaceMember(Tree member) {
        ModifiersTree modifiers = member instanceof MethodTree ? ((MethodTree) member).getModifiers()
                : member instanceof VariableTree ? ((VariableTree) member).getModifiers()
                : ((ClassTree) member).getModifiers();
        Set<Modifier> flags = modifiers.getFlags();
        boolean isPublic = flags.contains(Modifier.PUBLIC);
        Bench.due(at(member) + "a member is public or private", isPublic || flags.contains(Modifier.PRIVATE), true);
        if (isPublic && member instanceof VariableTree) {
            Bench.due(at(member) + "the one constant", ((VariableTree) member).getName().contentEquals("NONE"), true);
        }
    }

    @Override
    public Void visitMethod(MethodTree tree, Void p) {
        String name = tree.getName().toString();
        long lines = line(positions.getEndPosition(unit, tree)) - line(positions.getStartPosition(unit, tree)) + 1;
        Bench.due(at(tree) + name + " has " + lines + " lines", lines <= MOST_LINES, true);
        Bench.due(at(tree) + "parameters of " + name, tree.getParameters().size() <= MOST_PARAMETERS, true);
        if (classes.size() == 1 && tree.getModifiers().getFlags().contains(Modifier.PUBLIC)) {
            publicMethods.add(name);
        } else {
            otherMethods.add(name);
        }
        MethodTree outer = method;
        method = tree;
        super.visitMethod(tree, p);
        method = outer;
        return null;
    }

    private void closeBooks() {
        Set<String> face = new HashSet<>(List.of(FACE.split(" ")));
        face.add("<init>");
        Bench.due("the public methods are the face's: " + publicMethods, publicMethods.equals(face), true);
        face.remove("<init>");
        for (String name : otherMethods) {
            Bench.due("a method of its own bears the name " + name, face.contains(name), false);
        }
        Bench.due(classes.size() + " classes", classes.size() <= MOST_CLASSES, true);
    }

    @Override
    public Void visitMethodInvocation(MethodInvocationTree tree, Void p) {
        if (tree.getMethodSelect() instanceof MemberSelectTree) {
            MemberSelectTree select = (MemberSelectTree) tree.getMethodSelect();
            String of = select.getExpression().toString();
            if (of.equals("Math") || of.equals("Arrays") || of.equals("System") || of.equals("Integer")
                    || of.equals("Long")) {
                Bench.due(at(tree) + "library call " + select, LIBRARY.contains(select.toString()), true);
            }
        }
        return super.visitMethodInvocation(tree, p);
    }

    @Override
    public Void visitBinary(BinaryTree tree, Void p) {
        if (tree.getKind() == Tree.Kind.PLUS && (tree.getLeftOperand().getKind() == Tree.Kind.STRING_LITERAL
                || tree.getRightOperand().getKind() == Tree.Kind.STRING_LITERAL)) {
            no(tree, "texts joined by +");
        }
        return super.visitBinary(tree, p);
    }

    @Override
    public Void visitThrow(ThrowTree tree, Void p) {
        Bench.due(at(tree) + "throw in a constructor", method.getName().contentEquals("<init>"), false);
        return super.visitThrow(tree, p);
    }

    @Override
    public Void visitTry(TryTree tree, Void p) {
        no(tree, "try: this class throws only to its caller");
        return super.visitTry(tree, p);
    }

    @Override
    public Void visitLambdaExpression(LambdaExpressionTree tree, Void p) {
        no(tree, "lambda");
        return super.visitLambdaExpression(tree, p);
    }

    @Override
    public Void visitMemberReference(MemberReferenceTree tree, Void p) {
        no(tree, "method reference");
        return super.visitMemberReference(tree, p);
    }

    @Override
    public Void visitSynchronized(SynchronizedTree tree, Void p) {
        no(tree, "synchronized");
        return super.visitSynchronized(tree, p);
    }

    @Override
    public Void visitAssert(AssertTree tree, Void p) {
        no(tree, "assert");
        return super.visitAssert(tree, p);
    }
}
