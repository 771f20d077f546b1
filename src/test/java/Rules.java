import com.sun.source.tree.AssertTree;
import com.sun.source.tree.BinaryTree;
import com.sun.source.tree.BlockTree;
import com.sun.source.tree.ClassTree;
import com.sun.source.tree.CompilationUnitTree;
import com.sun.source.tree.ConditionalExpressionTree;
import com.sun.source.tree.ExpressionTree;
import com.sun.source.tree.ForLoopTree;
import com.sun.source.tree.IdentifierTree;
import com.sun.source.tree.ImportTree;
import com.sun.source.tree.LambdaExpressionTree;
import com.sun.source.tree.LiteralTree;
import com.sun.source.tree.MemberReferenceTree;
import com.sun.source.tree.MethodInvocationTree;
import com.sun.source.tree.MethodTree;
import com.sun.source.tree.NewArrayTree;
import com.sun.source.tree.NewClassTree;
import com.sun.source.tree.PackageTree;
import com.sun.source.tree.ParenthesizedTree;
import com.sun.source.tree.SynchronizedTree;
import com.sun.source.tree.ThrowTree;
import com.sun.source.tree.Tree;
import com.sun.source.tree.TryTree;
import com.sun.source.tree.TypeCastTree;
import com.sun.source.tree.VariableTree;
import com.sun.source.tree.WhileLoopTree;
import com.sun.source.util.JavacTask;
import com.sun.source.util.TreePath;
import com.sun.source.util.TreePathScanner;
import com.sun.source.util.Trees;
import java.io.IOException;
import java.nio.file.Path;
import java.util.ArrayList;
import java.util.List;
import java.util.Map;
import java.util.Set;
import java.util.TreeMap;
import java.util.TreeSet;
import javax.lang.model.element.Element;
import javax.lang.model.element.ElementKind;
import javax.lang.model.element.ExecutableElement;
import javax.lang.model.element.Modifier;
import javax.lang.model.element.TypeElement;
import javax.lang.model.element.VariableElement;
import javax.lang.model.type.ArrayType;
import javax.lang.model.type.TypeKind;
import javax.lang.model.type.TypeMirror;
import javax.tools.JavaCompiler;
import javax.tools.StandardJavaFileManager;
import javax.tools.ToolProvider;

/**
 * Rules of LANGUAGE.md, looked at in the source as the compiler understands it. In some things the class keeps to less
 * than they leave, and that is asked for here: it catches nothing, only past throws, only what is made with the object
 * makes objects, and there is no null.
 */
final class Rules extends TreePathScanner<Void, Void> {
    private static final String OWN = "AreaSetter";
    private static final int MOST_CLASSES = 12;
    private static final int MOST_FIELDS = 20;
    private static final int MOST_PARAMETERS = 7;
    private static final int MOST_LINES = 60;
    private static final int MOST_DEEP = 8;
    private static final Set<String> LIBRARY = Set.of("java.lang.Math.max", "java.lang.Math.min", "java.lang.Math.abs",
            "java.lang.String.length", "java.lang.String.charAt", "java.lang.Object.<init>",
            "java.util.NoSuchElementException.<init>");
    private static final Set<TypeKind> NUMBERS = Set.of(TypeKind.INT, TypeKind.LONG, TypeKind.SHORT, TypeKind.BYTE,
            TypeKind.CHAR, TypeKind.BOOLEAN);

    private final List<String> broken = new ArrayList<>();
    private final Map<String, Set<String>> calls = new TreeMap<>();
    private final Set<String> seen = new TreeSet<>();
    private Trees trees;
    private CompilationUnitTree unit;
    private int classes = 0;

    /** What a source breaks; nothing if it keeps to all that is looked at. */
    static List<String> brokenBy(Path source) throws IOException {
        JavaCompiler compiler = ToolProvider.getSystemJavaCompiler();
        try (StandardJavaFileManager files = compiler.getStandardFileManager(null, null, null)) {
            JavacTask task = (JavacTask) compiler.getTask(null, files, null, List.of("-proc:none"), null,
                    files.getJavaFileObjects(source));
            Rules rules = new Rules();
            for (CompilationUnitTree one : task.parse()) {
                rules.unit = one;
            }
            task.analyze();
            rules.trees = Trees.instance(task);
            rules.scan(rules.unit, null);
            rules.close();
            return rules.broken;
        }
    }

    private void close() {
        hold(classes <= MOST_CLASSES, "rule 11: more than twelve classes");
        hold(seen.size() > 50, "the source was not looked at");
        for (String method : calls.keySet()) {
            List<String> path = new ArrayList<>(List.of(method));
            follow(path);
        }
    }

    /** Goes down all chains of calls in which no method comes twice, the library's methods with them. */
    private void follow(List<String> path) {
        if (path.size() > MOST_DEEP) {
            broken.add("rule 11: calls too deep, " + path);
            return;
        }
        for (String next : calls.getOrDefault(path.get(path.size() - 1), Set.of())) {
            if (path.contains(next)) {
                hold(next.startsWith(OWN + ".Cutter."), "rule 8: recursion by way of " + next);
                continue;
            }
            path.add(next);
            follow(path);
            path.remove(path.size() - 1);
        }
    }

    private void hold(boolean holds, String what) {
        if (!holds) {
            broken.add(what);
        }
    }

    private void hold(boolean holds, String what, Tree where) {
        long at = trees.getSourcePositions().getStartPosition(unit, where);
        hold(holds, what + ", line " + unit.getLineMap().getLineNumber(at));
    }

    private Element elementOf(Tree tree) {
        return trees.getElement(new TreePath(getCurrentPath(), tree));
    }

    private TypeMirror typeOf(Tree tree) {
        return trees.getTypeMirror(new TreePath(getCurrentPath(), tree));
    }

    private static String nameOf(ExecutableElement method) {
        return ((TypeElement) method.getEnclosingElement()).getQualifiedName() + "." + method.getSimpleName();
    }

    /** The method that the path stands in; null in what is made with the object or the class. */
    private MethodTree enclosingMethod() {
        for (TreePath at = getCurrentPath(); at != null; at = at.getParentPath()) {
            if (at.getLeaf() instanceof MethodTree method) {
                return method;
            }
            if (at.getLeaf() instanceof ClassTree) {
                return null;
            }
        }
        return null;
    }

    private boolean isWhileMaking() {
        MethodTree method = enclosingMethod();
        return method == null || method.getReturnType() == null;
    }

    private String enclosingName() {
        for (TreePath at = getCurrentPath(); at != null; at = at.getParentPath()) {
            if (at.getLeaf() instanceof MethodTree || at.getLeaf() instanceof ClassTree) {
                Element element = trees.getElement(at);
                return element instanceof ExecutableElement method ? nameOf(method) : element + ".<init>";
            }
        }
        return "";
    }

    /** The value of a constant; null for all else. */
    private Object constantOf(Tree tree) {
        if (tree instanceof LiteralTree literal) {
            return literal.getValue();
        }
        return elementOf(tree) instanceof VariableElement variable ? variable.getConstantValue() : null;
    }

    @Override
    public Void visitPackage(PackageTree tree, Void none) {
        hold(false, "a package line", tree);
        return null;
    }

    @Override
    public Void visitImport(ImportTree tree, Void none) {
        hold(tree.getQualifiedIdentifier().toString().equals("java.util.NoSuchElementException"), "rule 4: " + tree, tree);
        return null;
    }

    @Override
    public Void visitClass(ClassTree tree, Void none) {
        classes++;
        Element element = trees.getElement(getCurrentPath());
        boolean isInside = element.getEnclosingElement().getKind() != ElementKind.PACKAGE;
        Set<Modifier> modifiers = element.getModifiers();
        hold(!isInside || modifiers.contains(Modifier.STATIC), "rule 2: not static, " + element, tree);
        hold(isInside != modifiers.contains(Modifier.PUBLIC), "rule 1: who sees " + element, tree);
        int fields = 0;
        for (Element member : element.getEnclosedElements()) {
            fields += member.getKind() == ElementKind.FIELD && !member.getModifiers().contains(Modifier.STATIC) ? 1 : 0;
        }
        hold(fields <= MOST_FIELDS, "rule 11: more than twenty fields in " + element, tree);
        return super.visitClass(tree, none);
    }

    @Override
    public Void visitBlock(BlockTree tree, Void none) {
        boolean isOfClass = getCurrentPath().getParentPath().getLeaf() instanceof ClassTree;
        hold(!isOfClass, "rule 5: an initialiser block", tree);
        return super.visitBlock(tree, none);
    }

    @Override
    public Void visitMethod(MethodTree tree, Void none) {
        ExecutableElement method = (ExecutableElement) trees.getElement(getCurrentPath());
        String name = nameOf(method);
        calls.computeIfAbsent(name, k -> new TreeSet<>());
        seen.add(name);
        hold(tree.getParameters().size() <= MOST_PARAMETERS, "rule 11: more than seven parameters of " + name, tree);
        long from = trees.getSourcePositions().getStartPosition(unit, tree);
        long to = trees.getSourcePositions().getEndPosition(unit, tree);
        long lines = from < 0 || to < 0 ? 0 : unit.getLineMap().getLineNumber(to) - unit.getLineMap().getLineNumber(from);
        hold(lines < MOST_LINES, "rule 11: more than sixty lines of " + name, tree);
        boolean isOfFace = name.matches(OWN + "\\.\\w+") && method.getModifiers().contains(Modifier.PUBLIC);
        hold(method.getThrownTypes().isEmpty() || isOfFace, "rule 6: throws of " + name, tree);
        boolean isOverloaded = method.getEnclosingElement().getEnclosedElements().stream()
                .filter(other -> other.getKind() == ElementKind.METHOD)
                .filter(other -> other.getSimpleName().equals(method.getSimpleName())).count() > 1;
        hold(!isOverloaded, "two methods are called " + name, tree);
        return super.visitMethod(tree, none);
    }

    @Override
    public Void visitMethodInvocation(MethodInvocationTree tree, Void none) {
        if (elementOf(tree.getMethodSelect()) instanceof ExecutableElement method) {
            called(nameOf(method), tree);
        } else {
            hold(false, "an unknown call " + tree, tree);
        }
        return super.visitMethodInvocation(tree, none);
    }

    private void called(String name, Tree tree) {
        hold(name.startsWith(OWN + ".") || LIBRARY.contains(name), "rule 4: " + name, tree);
        if (!name.startsWith("java.lang.Object.")) {
            calls.computeIfAbsent(enclosingName(), k -> new TreeSet<>()).add(name);
        }
    }

    @Override
    public Void visitNewClass(NewClassTree tree, Void none) {
        boolean isThrown = getCurrentPath().getParentPath().getLeaf() instanceof ThrowTree;
        hold(isThrown || isWhileMaking(), "an object made by a call", tree);
        hold(tree.getClassBody() == null, "rule 2: an anonymous class", tree);
        for (ExpressionTree argument : tree.getArguments()) {
            hold(isConstantSum(argument), "rule 12: something handed out while making", tree);
        }
        if (trees.getElement(getCurrentPath()) instanceof ExecutableElement constructor) {
            called(nameOf(constructor), tree);
        }
        return super.visitNewClass(tree, none);
    }

    private boolean isConstantSum(ExpressionTree tree) {
        if (tree instanceof BinaryTree both) {
            return isConstantSum(both.getLeftOperand()) && isConstantSum(both.getRightOperand());
        }
        return constantOf(tree) != null;
    }

    @Override
    public Void visitNewArray(NewArrayTree tree, Void none) {
        hold(isWhileMaking(), "an array made by a call", tree);
        return super.visitNewArray(tree, none);
    }

    @Override
    public Void visitThrow(ThrowTree tree, Void none) {
        hold(tree.getExpression().toString().equals("new NoSuchElementException()"), "rule 6: " + tree, tree);
        hold(enclosingName().equals(OWN + ".past"), "rule 6: only past throws", tree);
        return super.visitThrow(tree, none);
    }

    @Override
    public Void visitVariable(VariableTree tree, Void none) {
        VariableElement variable = (VariableElement) trees.getElement(getCurrentPath());
        TypeMirror type = variable.asType();
        hold(isAllowed(type), "rule 3: type " + type, tree);
        Set<Modifier> modifiers = variable.getModifiers();
        if (modifiers.contains(Modifier.STATIC)) {
            hold(modifiers.contains(Modifier.FINAL) && variable.getConstantValue() != null, "rule 5: " + tree, tree);
        } else if (variable.getKind() == ElementKind.FIELD && !NUMBERS.contains(type.getKind())) {
            hold(tree.getInitializer() != null || modifiers.contains(Modifier.FINAL), "null at first: " + tree, tree);
        }
        return super.visitVariable(tree, none);
    }

    private static boolean isAllowed(TypeMirror type) {
        if (type.getKind() == TypeKind.ARRAY) {
            TypeMirror inner = ((ArrayType) type).getComponentType();
            return NUMBERS.contains(inner.getKind()) || inner.toString().startsWith(OWN + ".");
        }
        return NUMBERS.contains(type.getKind()) || type.toString().startsWith(OWN + ".")
                || type.toString().equals("java.lang.String");
    }

    @Override
    public Void visitBinary(BinaryTree tree, Void none) {
        boolean isOfNumbers = NUMBERS.contains(typeOf(tree.getLeftOperand()).getKind())
                && NUMBERS.contains(typeOf(tree.getRightOperand()).getKind());
        hold(isOfNumbers, "rules 6, 10: " + tree, tree);
        if (tree.getKind() == Tree.Kind.DIVIDE || tree.getKind() == Tree.Kind.REMAINDER) {
            hold(isSafeDivisor(tree.getRightOperand()), "rule 7: divided without a look, " + tree, tree);
        }
        return super.visitBinary(tree, none);
    }

    /** A constant, or what stands behind 'divisor <= 0 ? .. :'. */
    private boolean isSafeDivisor(ExpressionTree divisor) {
        if (constantOf(divisor) != null) {
            return !constantOf(divisor).toString().equals("0");
        }
        Tree below = getCurrentPath().getLeaf();
        for (TreePath at = getCurrentPath().getParentPath(); at != null; at = at.getParentPath()) {
            if (at.getLeaf() instanceof ConditionalExpressionTree choice) {
                String test = choice.getCondition() instanceof ParenthesizedTree p ? p.getExpression().toString()
                        : choice.getCondition().toString();
                return choice.getFalseExpression() == below && test.equals(divisor + " <= 0");
            }
            below = at.getLeaf();
        }
        return false;
    }

    @Override
    public Void visitTypeCast(TypeCastTree tree, Void none) {
        hold(NUMBERS.contains(typeOf(tree).getKind()) || NUMBERS.contains(typeOf(tree.getType()).getKind()),
                "rule 6: a cast, " + tree, tree);
        return super.visitTypeCast(tree, none);
    }

    @Override
    public Void visitIdentifier(IdentifierTree tree, Void none) {
        hold(!tree.getName().contentEquals("this"), "rule 12: this handed out", tree);
        return super.visitIdentifier(tree, none);
    }

    @Override
    public Void visitLiteral(LiteralTree tree, Void none) {
        Tree.Kind kind = tree.getKind();
        hold(kind != Tree.Kind.NULL_LITERAL, "a null", tree);
        hold(kind != Tree.Kind.DOUBLE_LITERAL && kind != Tree.Kind.FLOAT_LITERAL, "no whole number", tree);
        // the value, as the tree's own text has other signs escaped
        boolean isText = kind == Tree.Kind.STRING_LITERAL || kind == Tree.Kind.CHAR_LITERAL;
        hold(!isText || tree.getValue().toString().chars().allMatch(c -> c > 0 && c < 128), "rule 4: signs 1 to 127", tree);
        return super.visitLiteral(tree, none);
    }

    @Override
    public Void visitForLoop(ForLoopTree tree, Void none) {
        hold(tree.getCondition() != null && !tree.getUpdate().isEmpty(), "rule 9: a loop without an end", tree);
        return super.visitForLoop(tree, none);
    }

    @Override
    public Void visitWhileLoop(WhileLoopTree tree, Void none) {
        hold(!tree.getCondition().toString().contains("true"), "rule 9: a loop without an end", tree);
        return super.visitWhileLoop(tree, none);
    }

    @Override
    public Void visitTry(TryTree tree, Void none) {
        hold(false, "a try", tree);
        return super.visitTry(tree, none);
    }

    @Override
    public Void visitLambdaExpression(LambdaExpressionTree tree, Void none) {
        hold(false, "rule 2: a lambda", tree);
        return super.visitLambdaExpression(tree, none);
    }

    @Override
    public Void visitMemberReference(MemberReferenceTree tree, Void none) {
        hold(false, "rule 2: a method reference", tree);
        return super.visitMemberReference(tree, none);
    }

    @Override
    public Void visitAssert(AssertTree tree, Void none) {
        hold(false, "rule 6: assert", tree);
        return super.visitAssert(tree, none);
    }

    @Override
    public Void visitSynchronized(SynchronizedTree tree, Void none) {
        hold(false, "rule 6: synchronized", tree);
        return super.visitSynchronized(tree, none);
    }
}
