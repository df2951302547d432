import com.sun.source.tree.AssertTree;
import com.sun.source.tree.BinaryTree;
import com.sun.source.tree.BlockTree;
import com.sun.source.tree.CatchTree;
import com.sun.source.tree.ClassTree;
import com.sun.source.tree.CompilationUnitTree;
import com.sun.source.tree.ExpressionTree;
import com.sun.source.tree.ImportTree;
import com.sun.source.tree.LambdaExpressionTree;
import com.sun.source.tree.LiteralTree;
import com.sun.source.tree.MemberReferenceTree;
import com.sun.source.tree.MethodInvocationTree;
import com.sun.source.tree.MethodTree;
import com.sun.source.tree.NewArrayTree;
import com.sun.source.tree.NewClassTree;
import com.sun.source.tree.SynchronizedTree;
import com.sun.source.tree.ThrowTree;
import com.sun.source.tree.Tree;
import com.sun.source.tree.TryTree;
import com.sun.source.tree.TypeCastTree;
import com.sun.source.tree.VariableTree;
import com.sun.source.util.JavacTask;
import com.sun.source.util.TreePathScanner;
import com.sun.source.util.Trees;
import java.nio.file.Path;
import java.util.HashMap;
import java.util.HashSet;
import java.util.Map;
import java.util.Set;
import javax.lang.model.element.Element;
import javax.lang.model.element.ElementKind;
import javax.lang.model.element.ExecutableElement;
import javax.lang.model.element.Modifier;
import javax.lang.model.element.TypeElement;
import javax.lang.model.type.ArrayType;
import javax.lang.model.type.TypeKind;
import javax.lang.model.type.TypeMirror;
import javax.tools.JavaCompiler;
import javax.tools.StandardJavaFileManager;
import javax.tools.ToolProvider;

/** What can be seen of ../shared/LANGUAGE.md in the source of the class, told by the numbers of its rules. */
public final class LanguageTest extends TreePathScanner<Void, Void> {
    private static final Path SOURCE = Path.of("src/main/java/FairWalls.java");
    private static final Set<String> IMPORTS = Set.of("java.util.Arrays", "java.util.ArrayList", "java.util.List",
            "java.util.Iterator", "java.util.NoSuchElementException");
    private static final Set<String> LIBRARY = Set.of("String.length", "String.charAt", "String.isEmpty",
            "String.equals", "String.indexOf", "String.substring", "String.toCharArray", "System.arraycopy",
            "Arrays.copyOf", "Arrays.copyOfRange", "Arrays.fill", "Math.max", "Math.min", "Math.abs",
            "Math.floorDiv", "Math.floorMod", "Object.Object");
    private static final Set<String> EXCEPTIONS = Set.of("IllegalStateException", "IllegalArgumentException",
            "IndexOutOfBoundsException", "ArithmeticException", "UnsupportedOperationException",
            "NoSuchElementException", "RuntimeException");

    private final Trees trees;
    private final CompilationUnitTree unit;
    private final Map<Element, Set<Element>> calls = new HashMap<>();
    private final Set<String> face = new HashSet<>();
    private int classes;

    private LanguageTest(Trees trees, CompilationUnitTree unit) {
        this.trees = trees;
        this.unit = unit;
    }

    public static void main(String[] args) throws Exception {
        JavaCompiler compiler = ToolProvider.getSystemJavaCompiler();
        try (StandardJavaFileManager files = compiler.getStandardFileManager(null, null, null)) {
            JavacTask task = (JavacTask) compiler.getTask(null, files, null, null, null,
                    files.getJavaFileObjects(SOURCE));
            CompilationUnitTree unit = task.parse().iterator().next();
            task.analyze();
            new LanguageTest(Trees.instance(task), unit).lookAtAll();
        }
        Due.end();
    }

    private void lookAtAll() {
        Due.is("rule 1: classes of the file", unit.getTypeDecls().size(), 1);
        Due.is("rule 1: package lines", unit.getPackage() == null ? 0 : 1, 0);
        ClassTree outer = (ClassTree) unit.getTypeDecls().get(0);
        for (Tree member : outer.getMembers()) {
            if (member instanceof MethodTree method && method.getModifiers().getFlags().contains(Modifier.PUBLIC)) {
                face.add(method.getName().toString());
            }
        }
        scan(unit, null);
        need("rule 11", unit, classes <= 12, "too many classes: " + classes);
        need("rule 11", unit, depth(new HashSet<>()) <= 8, "calls go too deep");
        need("all", unit, calls.size() > 100, "too little was looked at");
    }

    private void need(String rule, Tree at, boolean holds, String what) {
        if (!holds) {
            long start = trees.getSourcePositions().getStartPosition(unit, at);
            Due.same(rule + ", line " + unit.getLineMap().getLineNumber(start), what, "nothing of that kind");
        }
    }

    private void never(String rule, Tree at) {
        need(rule, at, false, at.getKind().toString());
    }

    private int linesOf(Tree tree) {
        long start = trees.getSourcePositions().getStartPosition(unit, tree);
        long end = trees.getSourcePositions().getEndPosition(unit, tree);
        return (int) (unit.getLineMap().getLineNumber(end) - unit.getLineMap().getLineNumber(start) + 1);
    }

    private Element here() {
        return trees.getElement(getCurrentPath());
    }

    private int depth(Set<Element> open) {
        int deepest = 0;
        for (Element method : calls.keySet()) {
            deepest = Math.max(deepest, depthOf(method, open));
        }
        return deepest;
    }

    /** No recursion is due, so each method that is met again while it is open is told. */
    private int depthOf(Element method, Set<Element> open) {
        if (!open.add(method)) {
            need("rule 8", unit, false, "recursion of " + method);
            return 0;
        }
        int deepest = 0;
        for (Element called : calls.getOrDefault(method, Set.of())) {
            deepest = Math.max(deepest, depthOf(called, open));
        }
        open.remove(method);
        return deepest + 1;
    }

    @Override
    public Void visitImport(ImportTree tree, Void none) {
        String name = tree.getQualifiedIdentifier().toString();
        need("rule 4", tree, IMPORTS.contains(name) && !tree.isStatic(), "import of " + name);
        return super.visitImport(tree, none);
    }

    @Override
    public Void visitClass(ClassTree tree, Void none) {
        classes++;
        Set<Modifier> flags = tree.getModifiers().getFlags();
        boolean isOuter = getCurrentPath().getParentPath().getLeaf() == unit;
        need("rule 1", tree, !isOuter || flags.equals(Set.of(Modifier.PUBLIC, Modifier.FINAL)), flags.toString());
        need("rule 2", tree, isOuter || flags.contains(Modifier.STATIC), "inner class " + tree.getSimpleName());
        need("rule 1", tree, isOuter || !flags.contains(Modifier.PUBLIC), "public " + tree.getSimpleName());
        int fields = 0;
        for (Tree member : tree.getMembers()) {
            if (member instanceof VariableTree field) {
                boolean isStatic = field.getModifiers().getFlags().contains(Modifier.STATIC);
                fields += isStatic ? 0 : 1;
                need("rule 5", field, !isStatic || field.getModifiers().getFlags().contains(Modifier.FINAL),
                        "static " + field.getName());
            }
            need("rule 5", member, !(member instanceof BlockTree), "initialiser block");
        }
        need("rule 11", tree, fields <= 20, fields + " fields");
        return super.visitClass(tree, none);
    }

    @Override
    public Void visitMethod(MethodTree tree, Void none) {
        calls.computeIfAbsent(here(), k -> new HashSet<>());
        boolean isOfFace = here().getModifiers().contains(Modifier.PUBLIC);
        String name = tree.getName().toString();
        need("rule 1", tree, isOfFace || !face.contains(name) || name.equals("<init>"), "a name of the face: " + name);
        need("rule 11", tree, tree.getParameters().size() <= 7, "many parameters");
        need("rule 11", tree, linesOf(tree) <= 60, "a long method: " + name);
        return super.visitMethod(tree, none);
    }

    @Override
    public Void visitVariable(VariableTree tree, Void none) {
        TypeMirror type = here().asType();
        while (type.getKind() == TypeKind.ARRAY) {
            type = ((ArrayType) type).getComponentType();
        }
        String name = type.toString();
        boolean isOwn = name.equals("FairWalls") || name.startsWith("FairWalls.");
        need("rule 3", tree, type.getKind().isPrimitive() || isOwn || name.equals("java.lang.String"), name);
        return super.visitVariable(tree, none);
    }

    @Override
    public Void visitMethodInvocation(MethodInvocationTree tree, Void none) {
        noteCall(tree);
        return super.visitMethodInvocation(tree, none);
    }

    @Override
    public Void visitNewClass(NewClassTree tree, Void none) {
        boolean isThrown = getCurrentPath().getParentPath().getLeaf() instanceof ThrowTree;
        if (!isThrown) {
            noteCall(tree);
        }
        need("rule 12", tree, tree.getClassBody() == null, "anonymous class");
        return super.visitNewClass(tree, none);
    }

    private void noteCall(Tree tree) {
        ExecutableElement called = (ExecutableElement) here();
        TypeElement owner = (TypeElement) called.getEnclosingElement();
        if (owner.getQualifiedName().toString().startsWith("FairWalls")) {
            Element caller = callerHere();
            if (caller != null) {
                calls.computeIfAbsent(caller, k -> new HashSet<>()).add(called);
            }
            return;
        }
        String name = called.getKind() == ElementKind.CONSTRUCTOR ? owner.getSimpleName().toString()
                : called.getSimpleName().toString();
        String full = owner.getSimpleName() + "." + name;
        need("rule 4", tree, LIBRARY.contains(full), "call of " + full);
    }

    /** The method around the call; null in a field's initialiser. */
    private Element callerHere() {
        for (Tree tree : getCurrentPath()) {
            if (tree instanceof MethodTree) {
                return trees.getElement(trees.getPath(unit, tree));
            }
        }
        return null;
    }

    @Override
    public Void visitThrow(ThrowTree tree, Void none) {
        boolean isRight = false;
        if (tree.getExpression() instanceof NewClassTree made) {
            isRight = EXCEPTIONS.contains(made.getIdentifier().toString()) && made.getArguments().size() <= 1;
            for (ExpressionTree argument : made.getArguments()) {
                isRight &= argument instanceof LiteralTree;
            }
        }
        need("rule 6", tree, isRight, tree.toString());
        Element method = callerHere();
        need("rule 6", tree, method != null && method.getKind() != ElementKind.CONSTRUCTOR, "throw in a constructor");
        return super.visitThrow(tree, none);
    }

    @Override
    public Void visitTry(TryTree tree, Void none) {
        need("rule 6", tree, tree.getFinallyBlock() == null && tree.getResources().isEmpty(), "finally or resources");
        return super.visitTry(tree, none);
    }

    @Override
    public Void visitCatch(CatchTree tree, Void none) {
        never("rule 6, and no machine's exception is caught", tree);
        return super.visitCatch(tree, none);
    }

    @Override
    public Void visitTypeCast(TypeCastTree tree, Void none) {
        need("rule 6", tree, tree.getType().getKind() == Tree.Kind.PRIMITIVE_TYPE, "cast to " + tree.getType());
        return super.visitTypeCast(tree, none);
    }

    @Override
    public Void visitNewArray(NewArrayTree tree, Void none) {
        need("rule 3", tree, tree.getDimensions().size() <= 1, "two dimensions");
        return super.visitNewArray(tree, none);
    }

    /** Texts are joined by StringBuilder. */
    @Override
    public Void visitBinary(BinaryTree tree, Void none) {
        TypeMirror type = trees.getTypeMirror(getCurrentPath());
        need("rule 10", tree, type.getKind().isPrimitive(), tree.toString());
        return super.visitBinary(tree, none);
    }

    @Override
    public Void visitLambdaExpression(LambdaExpressionTree tree, Void none) {
        never("rule 2", tree);
        return super.visitLambdaExpression(tree, none);
    }

    @Override
    public Void visitMemberReference(MemberReferenceTree tree, Void none) {
        never("rule 2", tree);
        return super.visitMemberReference(tree, none);
    }

    @Override
    public Void visitSynchronized(SynchronizedTree tree, Void none) {
        never("rule 6", tree);
        return super.visitSynchronized(tree, none);
    }

    @Override
    public Void visitAssert(AssertTree tree, Void none) {
        never("rule 6", tree);
        return super.visitAssert(tree, none);
    }
}
