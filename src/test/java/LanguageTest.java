import com.sun.source.tree.AnnotationTree;
import com.sun.source.tree.AssertTree;
import com.sun.source.tree.BinaryTree;
import com.sun.source.tree.BlockTree;
import com.sun.source.tree.ClassTree;
import com.sun.source.tree.CompilationUnitTree;
import com.sun.source.tree.CompoundAssignmentTree;
import com.sun.source.tree.ExpressionTree;
import com.sun.source.tree.ImportTree;
import com.sun.source.tree.LambdaExpressionTree;
import com.sun.source.tree.LiteralTree;
import com.sun.source.tree.MemberReferenceTree;
import com.sun.source.tree.MemberSelectTree;
import com.sun.source.tree.MethodInvocationTree;
import com.sun.source.tree.MethodTree;
import com.sun.source.tree.NewArrayTree;
import com.sun.source.tree.NewClassTree;
import com.sun.source.tree.SynchronizedTree;
import com.sun.source.tree.ThrowTree;
import com.sun.source.tree.Tree;
import com.sun.source.tree.TryTree;
import com.sun.source.tree.VariableTree;
import com.sun.source.tree.WhileLoopTree;
import com.sun.source.util.JavacTask;
import com.sun.source.util.SourcePositions;
import com.sun.source.util.TreePathScanner;
import com.sun.source.util.Trees;
import java.io.IOException;
import java.nio.file.Path;
import java.util.ArrayList;
import java.util.HashMap;
import java.util.HashSet;
import java.util.List;
import java.util.Map;
import java.util.Set;
import javax.lang.model.element.Element;
import javax.lang.model.element.ElementKind;
import javax.lang.model.element.ExecutableElement;
import javax.lang.model.element.Modifier;
import javax.lang.model.element.VariableElement;
import javax.tools.JavaCompiler;
import javax.tools.StandardJavaFileManager;
import javax.tools.ToolProvider;

/**
 * What LANGUAGE.md asks of the class's text, so far as a reader of trees can see it. The class uses less than the
 * rules leave; where the test is stricter than they are, it holds what README.md says.
 */
public final class LanguageTest extends TreePathScanner<Void, Void> {
    private static final Check CHECK = new Check("LanguageTest");
    private static final Set<String> TYPES = Set.of("int", "long", "byte", "char", "boolean", "void",
        "byte[]", "int[]", "long[]", "Form", "Digits", "Program");
    private static final Set<String> LIBRARY = Set.of("Math.max", "Math.min", "Math.abs",
        "Integer.MAX_VALUE", "Integer.MIN_VALUE", "Long.MIN_VALUE");
    private static final Set<String> THROWN =
        Set.of("IllegalArgumentException", "ArrayIndexOutOfBoundsException");
    private static final int MOST_LINES = 60, MOST_PARAMETERS = 7, MOST_CLASSES = 12, MOST_FIELDS = 20;
    private static final int DEEPEST = 8;

    private final CompilationUnitTree unit;
    private final Trees trees;
    private final SourcePositions positions;
    private final Map<Element, Set<Element>> calls = new HashMap<>();
    private final Set<String> publicNames = new HashSet<>();
    private final List<String> privateNames = new ArrayList<>();
    private int classes;

    private LanguageTest(CompilationUnitTree unit, Trees trees) {
        this.unit = unit;
        this.trees = trees;
        this.positions = trees.getSourcePositions();
    }

    public static void main(String[] args) throws IOException {
        JavaCompiler compiler = ToolProvider.getSystemJavaCompiler();
        try (StandardJavaFileManager files = compiler.getStandardFileManager(null, null, null)) {
            JavacTask task = (JavacTask) compiler.getTask(null, files, null, List.of("--release", "17"), null,
                files.getJavaFileObjects(Path.of("src/main/java/GlulxFloats.java")));
            CompilationUnitTree unit = task.parse().iterator().next();
            task.analyze();
            LanguageTest test = new LanguageTest(unit, Trees.instance(task));
            test.scan(unit, null);
            test.unitRules();
        }
        CHECK.end();
    }

    private void unitRules() {
        CHECK.due("rule 1: no package line", unit.getPackageName() == null ? 1 : 0, 1);
        CHECK.due("one class with all others inside it", unit.getTypeDecls().size(), 1);
        holds("rule 11: classes", classes > 0 && classes <= MOST_CLASSES, unit);
        for (String name : privateNames) {
            holds("rule 1: no private method has the public name " + name, !publicNames.contains(name), unit);
        }
        int deepest = 0;
        for (Element method : calls.keySet()) {
            deepest = Math.max(deepest, depth(method, new ArrayList<>()));
        }
        holds("rule 11: " + deepest + " calls deep", deepest > 1 && deepest <= DEEPEST, unit);
    }

    private void holds(String rule, boolean so, Tree where) {
        long line = unit.getLineMap().getLineNumber(Math.max(0, positions.getStartPosition(unit, where)));
        CHECK.due("line " + line + ": " + rule, so ? 1 : 0, 1);
    }

    private void never(String rule, Tree where) {
        holds(rule, false, where);
    }

    /** How many calls stand open at once from here; a method that comes back to itself is told. */
    private int depth(Element method, List<Element> open) {
        if (open.contains(method)) {
            CHECK.due("rule 8: the class needs no recursion, " + method, 0, 1);
            return 0;
        }
        open.add(method);
        int below = 0;
        for (Element called : calls.getOrDefault(method, Set.of())) {
            below = Math.max(below, depth(called, open));
        }
        open.remove(open.size() - 1);
        return 1 + below;
    }

    private MethodTree method() {
        for (Tree tree : getCurrentPath()) {
            if (tree instanceof MethodTree found) {
                return found;
            }
        }
        return null;
    }

    private boolean inConstructor() {
        MethodTree method = method();
        return method != null && method.getReturnType() == null;
    }

    @Override
    public Void visitClass(ClassTree tree, Void none) {
        classes++;
        boolean outer = getCurrentPath().getParentPath().getLeaf() == unit;
        Set<Modifier> modifiers = tree.getModifiers().getFlags();
        Element element = trees.getElement(getCurrentPath());
        if (!outer) {
            holds("rule 1: classes inside are not public", !modifiers.contains(Modifier.PUBLIC)
                && !modifiers.contains(Modifier.PROTECTED), tree);
            holds("rule 1: and static", element.getModifiers().contains(Modifier.STATIC), tree);
            holds("rule 2: and stand in the class", element.getEnclosingElement().getKind().isClass(), tree);
        }
        int fields = 0;
        for (Tree member : tree.getMembers()) {
            holds("rule 5: no initialiser block", !(member instanceof BlockTree), member);
            if (member instanceof VariableTree field && !field.getModifiers().getFlags().contains(Modifier.STATIC)) {
                fields++;
                if (element.getKind() == ElementKind.ENUM) {
                    holds("rule 2: an enum's fields",
                        Set.of("int", "long", "boolean", "String").contains(field.getType().toString()), field);
                }
            }
        }
        holds("rule 11: fields", fields <= MOST_FIELDS, tree);
        return super.visitClass(tree, none);
    }

    @Override
    public Void visitMethod(MethodTree tree, Void none) {
        long start = unit.getLineMap().getLineNumber(Math.max(0, positions.getStartPosition(unit, tree)));
        long end = unit.getLineMap().getLineNumber(Math.max(0, positions.getEndPosition(unit, tree)));
        Element element = trees.getElement(getCurrentPath());
        holds("rule 11: lines of " + tree.getName(), end - start < MOST_LINES, tree);
        holds("rule 11: parameters of " + tree.getName(), tree.getParameters().size() <= MOST_PARAMETERS, tree);
        if (tree.getReturnType() != null) {
            holds("rule 3: type " + tree.getReturnType(), TYPES.contains(tree.getReturnType().toString()), tree);
            boolean face = tree.getModifiers().getFlags().contains(Modifier.PUBLIC);
            if (face) {
                publicNames.add(tree.getName().toString());
            } else {
                privateNames.add(tree.getName().toString());
            }
        }
        calls.putIfAbsent(element, new HashSet<>());
        return super.visitMethod(tree, none);
    }

    @Override
    public Void visitVariable(VariableTree tree, Void none) {
        VariableElement element = (VariableElement) trees.getElement(getCurrentPath());
        holds("rule 3: type " + tree.getType(), TYPES.contains(tree.getType().toString()), tree);
        if (element.getKind() == ElementKind.FIELD && element.getModifiers().contains(Modifier.STATIC)) {
            holds("rule 5: static fields are constants", element.getConstantValue() != null, tree);
        }
        return super.visitVariable(tree, none);
    }

    @Override
    public Void visitMemberSelect(MemberSelectTree tree, Void none) {
        String owner = tree.getExpression().toString();
        if (Set.of("Math", "Integer", "Long").contains(owner)) {
            holds("rule 4: " + tree, LIBRARY.contains(tree.toString()), tree);
        } else {
            Element element = trees.getElement(getCurrentPath());
            boolean own = element != null && element.getEnclosingElement() != null
                && !element.getEnclosingElement().toString().startsWith("java");
            holds("rule 4: " + tree, own || tree.getIdentifier().contentEquals("length"), tree);
        }
        return super.visitMemberSelect(tree, none);
    }

    @Override
    public Void visitMethodInvocation(MethodInvocationTree tree, Void none) {
        Element called = trees.getElement(getCurrentPath());
        MethodTree from = method();
        boolean own = called instanceof ExecutableElement
            && !called.getEnclosingElement().toString().startsWith("java");
        if (own && from != null && called.getKind() == ElementKind.METHOD) {
            calls.computeIfAbsent(elementOf(from), key -> new HashSet<>()).add(called);
            holds("rule 12: a constructor calls nothing", !inConstructor(), tree);
        }
        return super.visitMethodInvocation(tree, none);
    }

    private Element elementOf(MethodTree tree) {
        return trees.getElement(trees.getPath(unit, tree));
    }

    @Override
    public Void visitNewClass(NewClassTree tree, Void none) {
        boolean thrown = getCurrentPath().getParentPath().getLeaf() instanceof ThrowTree;
        boolean constant = getCurrentPath().getParentPath().getLeaf() instanceof VariableTree;
        holds("only constructors make objects", thrown || constant || inConstructor(), tree);
        holds("rule 2: no class of its own", tree.getClassBody() == null, tree);
        return super.visitNewClass(tree, none);
    }

    @Override
    public Void visitNewArray(NewArrayTree tree, Void none) {
        holds("only constructors make arrays", inConstructor(), tree);
        holds("rule 3: of one dimension", tree.getDimensions().size() == 1, tree);
        return super.visitNewArray(tree, none);
    }

    @Override
    public Void visitThrow(ThrowTree tree, Void none) {
        ExpressionTree thrown = tree.getExpression();
        boolean plain = thrown instanceof NewClassTree made && THROWN.contains(made.getIdentifier().toString())
            && made.getArguments().size() == 1 && made.getArguments().get(0) instanceof LiteralTree;
        holds("rule 6: " + tree, plain, tree);
        holds("rule 6: no throw in a constructor", !inConstructor(), tree);
        return super.visitThrow(tree, none);
    }

    /** A divisor is a number that is written and is not 0, or it is compared with 0 in the same method. */
    @Override
    public Void visitBinary(BinaryTree tree, Void none) {
        if (tree.getKind() == Tree.Kind.DIVIDE || tree.getKind() == Tree.Kind.REMAINDER) {
            divisor(tree.getRightOperand());
        }
        return super.visitBinary(tree, none);
    }

    @Override
    public Void visitCompoundAssignment(CompoundAssignmentTree tree, Void none) {
        if (tree.getKind() == Tree.Kind.DIVIDE_ASSIGNMENT || tree.getKind() == Tree.Kind.REMAINDER_ASSIGNMENT) {
            divisor(tree.getExpression());
        }
        return super.visitCompoundAssignment(tree, none);
    }

    private void divisor(ExpressionTree by) {
        boolean written = by instanceof LiteralTree number && !number.toString().equals("0");
        boolean looked = method() != null && method().toString().contains("if (" + by + " == 0)");
        holds("rule 7: the divisor " + by + " is looked at", written || looked, by);
    }

    @Override
    public Void visitWhileLoop(WhileLoopTree tree, Void none) {
        holds("rule 9: an end that can be seen: " + tree.getCondition(), tree.getCondition().toString().contains("<"),
            tree);
        return super.visitWhileLoop(tree, none);
    }

    @Override
    public Void visitImport(ImportTree tree, Void none) {
        never("rule 4: nothing is imported", tree);
        return super.visitImport(tree, none);
    }

    @Override
    public Void visitTry(TryTree tree, Void none) {
        never("nothing is caught", tree);
        return super.visitTry(tree, none);
    }

    @Override
    public Void visitLambdaExpression(LambdaExpressionTree tree, Void none) {
        never("rule 2: no lambda", tree);
        return super.visitLambdaExpression(tree, none);
    }

    @Override
    public Void visitMemberReference(MemberReferenceTree tree, Void none) {
        never("rule 2: no method reference", tree);
        return super.visitMemberReference(tree, none);
    }

    @Override
    public Void visitSynchronized(SynchronizedTree tree, Void none) {
        never("rule 6: no synchronized", tree);
        return super.visitSynchronized(tree, none);
    }

    @Override
    public Void visitAssert(AssertTree tree, Void none) {
        never("rule 6: no assert", tree);
        return super.visitAssert(tree, none);
    }

    @Override
    public Void visitAnnotation(AnnotationTree tree, Void none) {
        never("no annotation", tree);
        return super.visitAnnotation(tree, none);
    }
}
