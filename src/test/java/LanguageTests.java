import com.sun.source.tree.AssertTree;
import com.sun.source.tree.BinaryTree;
import com.sun.source.tree.BlockTree;
import com.sun.source.tree.ClassTree;
import com.sun.source.tree.CompilationUnitTree;
import com.sun.source.tree.CompoundAssignmentTree;
import com.sun.source.tree.DoWhileLoopTree;
import com.sun.source.tree.ExpressionTree;
import com.sun.source.tree.ForLoopTree;
import com.sun.source.tree.ImportTree;
import com.sun.source.tree.InstanceOfTree;
import com.sun.source.tree.LambdaExpressionTree;
import com.sun.source.tree.LiteralTree;
import com.sun.source.tree.MemberReferenceTree;
import com.sun.source.tree.MethodInvocationTree;
import com.sun.source.tree.MethodTree;
import com.sun.source.tree.NewArrayTree;
import com.sun.source.tree.NewClassTree;
import com.sun.source.tree.SynchronizedTree;
import com.sun.source.tree.ThrowTree;
import com.sun.source.tree.Tree;
import com.sun.source.tree.TryTree;
import com.sun.source.tree.TypeCastTree;
import com.sun.source.tree.VariableTree;
import com.sun.source.tree.WhileLoopTree;
import com.sun.source.util.JavacTask;
import com.sun.source.util.TreePathScanner;
import com.sun.source.util.Trees;
import java.io.IOException;
import java.nio.file.Files;
import java.nio.file.Path;
import java.util.HashMap;
import java.util.HashSet;
import java.util.List;
import java.util.Map;
import java.util.Set;
import javax.lang.model.element.Element;
import javax.lang.model.element.ElementKind;
import javax.lang.model.element.ExecutableElement;
import javax.lang.model.element.Modifier;
import javax.lang.model.element.VariableElement;
import javax.lang.model.type.ArrayType;
import javax.lang.model.type.TypeKind;
import javax.lang.model.type.TypeMirror;
import javax.tools.JavaCompiler;
import javax.tools.StandardJavaFileManager;
import javax.tools.ToolProvider;

/**
 * The source keeps to the rules of ../shared/LANGUAGE.md, as javac reads it: each fault is told with its rule's number.
 * The class is built of less than the rules leave: no recursion, no catch, no object made behind the constructor but
 * exceptions. Where a rule leaves more than the class uses, this test refuses it too.
 */
public final class LanguageTests extends TreePathScanner<Void, Void> {
    private static final Path SOURCE = Path.of("src/main/java/Lastbus.java");
    private static final int MOST_PARAMETERS = 7;
    private static final int MOST_LINES = 60;
    private static final int MOST_CLASSES = 12;
    private static final int MOST_FIELDS = 20;
    private static final int DEEPEST_CALL = 8;
    private static final Set<String> THROWN = Set.of("IllegalStateException", "IllegalArgumentException",
            "IndexOutOfBoundsException", "ArithmeticException", "UnsupportedOperationException", "NoSuchElementException");
    private static final Set<String> LIBRARY = Set.of("Math.max", "Math.min", "Integer.bitCount", "System.arraycopy");

    private final Trees trees;
    private final CompilationUnitTree unit;
    /** For each method of the class what it calls. */
    private final Map<Element, Set<Element>> called = new HashMap<>();
    private final Map<Element, Integer> depths = new HashMap<>();
    private final Set<Element> open = new HashSet<>();
    private Element method = null;
    private boolean isThrown = false;
    private int classes = 0;
    private int seen = 0;
    private int wrong = 0;

    private LanguageTests(Trees trees, CompilationUnitTree unit) {
        this.trees = trees;
        this.unit = unit;
    }

    private void need(boolean isFine, int rule, Tree at, String what) {
        seen++;
        if (!isFine) {
            wrong++;
            System.out.println("LanguageTests: rule " + rule + ", line " + lineAt(start(at)) + ": " + what);
        }
    }

    private long start(Tree tree) {
        return trees.getSourcePositions().getStartPosition(unit, tree);
    }

    private long lineAt(long position) {
        return position < 0 ? 0 : unit.getLineMap().getLineNumber(position);
    }

    private long lines(Tree tree) {
        long end = trees.getSourcePositions().getEndPosition(unit, tree);
        return lineAt(end) - lineAt(start(tree)) + 1;
    }

    private Element elementOf(Tree tree) {
        return trees.getElement(trees.getPath(unit, tree));
    }

    private TypeMirror typeOf(Tree tree) {
        return trees.getTypeMirror(trees.getPath(unit, tree));
    }

    private static boolean isOwn(Element element) {
        Element of = element;
        while (of != null && of.getKind() != ElementKind.PACKAGE) {
            if (of.getSimpleName().contentEquals("Lastbus")) {
                return true;
            }
            of = of.getEnclosingElement();
        }
        return false;
    }

    private static boolean isOwnType(TypeMirror type) {
        return type.toString().matches("Lastbus(\\.\\w+)?");
    }

    // Rule 3

    private static boolean isType(TypeMirror type) {
        if (type.getKind() != TypeKind.ARRAY) {
            return type.getKind().isPrimitive() || isOwnType(type) || type.toString().equals("java.lang.String");
        }
        TypeMirror of = ((ArrayType) type).getComponentType();
        if (of.getKind() != TypeKind.ARRAY) {
            return of.getKind().isPrimitive() || isOwnType(of);
        }
        TypeMirror number = ((ArrayType) of).getComponentType();
        return number.getKind().isPrimitive() && number.getKind() != TypeKind.BOOLEAN;
    }

    @Override
    public Void visitVariable(VariableTree tree, Void none) {
        VariableElement variable = (VariableElement) elementOf(tree);
        need(isType(typeOf(tree)), 3, tree, "the type of " + tree);
        if (variable.getKind() == ElementKind.FIELD && variable.getModifiers().contains(Modifier.STATIC)) {
            need(variable.getConstantValue() != null, 5, tree, "not a constant: " + tree);
        }
        return super.visitVariable(tree, none);
    }

    // Rules 1, 2, 8 and 11

    @Override
    public Void visitImport(ImportTree tree, Void none) {
        need(tree.toString().trim().equals("import java.util.NoSuchElementException;"), 4, tree, tree.toString());
        return super.visitImport(tree, none);
    }

    @Override
    public Void visitClass(ClassTree tree, Void none) {
        classes++;
        Element made = elementOf(tree);
        Element outer = made.getEnclosingElement();
        boolean isTop = outer.getKind() == ElementKind.PACKAGE;
        need(isTop || outer.getSimpleName().contentEquals("Lastbus"), 2, tree, "a class inside of another one");
        need(isTop || made.getModifiers().contains(Modifier.STATIC), 1, tree, "a class that is not static");
        int fields = 0;
        for (Tree member : tree.getMembers()) {
            need(!(member instanceof BlockTree), 5, member, "an initialiser block");
            boolean isField = member instanceof VariableTree;
            fields += isField && !elementOf(member).getModifiers().contains(Modifier.STATIC) ? 1 : 0;
        }
        need(fields <= MOST_FIELDS, 11, tree, fields + " fields");
        return super.visitClass(tree, none);
    }

    @Override
    public Void visitMethod(MethodTree tree, Void none) {
        method = elementOf(tree);
        called.put(method, new HashSet<>());
        need(tree.getParameters().size() <= MOST_PARAMETERS, 11, tree, "too many parameters");
        need(lines(tree) <= MOST_LINES, 11, tree, "a long method");
        TypeMirror answer = ((ExecutableElement) method).getReturnType();
        need(answer.getKind() == TypeKind.VOID || isType(answer), 3, tree, "the type of the answer");
        super.visitMethod(tree, none);
        method = null;
        return null;
    }

    /** How deep the calls go, from this method on, which is the first; the library's own are the last ones. */
    private int depth(Element of) {
        if (depths.containsKey(of)) {
            return depths.get(of);
        }
        if (!called.containsKey(of)) {
            return 1;
        }
        if (!open.add(of)) {
            wrong++;
            System.out.println("LanguageTests: rule 8: " + of + " calls itself");
            return 1;
        }
        int deepest = 0;
        for (Element next : called.get(of)) {
            deepest = Math.max(deepest, depth(next));
        }
        open.remove(of);
        depths.put(of, deepest + 1);
        return deepest + 1;
    }

    private void checkWhole() {
        need(classes <= MOST_CLASSES, 11, unit, classes + " classes");
        for (Element each : called.keySet()) {
            need(depth(each) <= DEEPEST_CALL, 11, unit, "calls go " + depth(each) + " deep from " + each);
        }
    }

    // Rules 4 and 12

    @Override
    public Void visitMethodInvocation(MethodInvocationTree tree, Void none) {
        Element to = elementOf(tree.getMethodSelect());
        String name = to.getEnclosingElement().getSimpleName() + "." + to.getSimpleName();
        boolean isSuper = tree.getMethodSelect().toString().equals("super");
        if (!isSuper) {
            called.get(method).add(to);
            need(isOwn(to) || LIBRARY.contains(name), 4, tree, "calls " + name);
            boolean isMade = method.getKind() == ElementKind.CONSTRUCTOR;
            need(!isMade || !to.getEnclosingElement().equals(method.getEnclosingElement()), 12, tree, "in a constructor");
        }
        return super.visitMethodInvocation(tree, none);
    }

    private boolean isInConstructor() {
        return method == null || method.getKind() == ElementKind.CONSTRUCTOR;
    }

    @Override
    public Void visitNewClass(NewClassTree tree, Void none) {
        need(isThrown || isOwnType(typeOf(tree)) && isInConstructor(), 12, tree, "makes " + tree);
        need(tree.getClassBody() == null, 2, tree, "an anonymous class");
        if (method != null && !isThrown) {
            called.get(method).add(elementOf(tree));
        }
        return super.visitNewClass(tree, none);
    }

    @Override
    public Void visitNewArray(NewArrayTree tree, Void none) {
        need(isInConstructor(), 12, tree, "makes " + tree);
        for (ExpressionTree size : tree.getDimensions()) {
            need(constant(size) > 0, 7, size, "a length that is no constant");
        }
        return super.visitNewArray(tree, none);
    }

    // Rule 6

    @Override
    public Void visitThrow(ThrowTree tree, Void none) {
        need(!isInConstructor(), 6, tree, "a throw in a constructor");
        boolean isNew = tree.getExpression() instanceof NewClassTree;
        need(isNew, 6, tree, "throws what is not new");
        if (isNew) {
            NewClassTree made = (NewClassTree) tree.getExpression();
            need(THROWN.contains(made.getIdentifier().toString()), 6, tree, "throws " + made.getIdentifier());
            List<? extends ExpressionTree> with = made.getArguments();
            need(with.isEmpty() || with.get(0) instanceof LiteralTree && with.size() == 1, 6, tree, "not a written text");
        }
        isThrown = true;
        super.visitThrow(tree, none);
        isThrown = false;
        return null;
    }

    @Override
    public Void visitTry(TryTree tree, Void none) {
        need(false, 6, tree, "a try");
        return null;
    }

    @Override
    public Void visitSynchronized(SynchronizedTree tree, Void none) {
        need(false, 6, tree, "synchronized");
        return null;
    }

    @Override
    public Void visitAssert(AssertTree tree, Void none) {
        need(false, 6, tree, "assert");
        return null;
    }

    @Override
    public Void visitInstanceOf(InstanceOfTree tree, Void none) {
        need(false, 6, tree, "instanceof");
        return null;
    }

    @Override
    public Void visitLambdaExpression(LambdaExpressionTree tree, Void none) {
        need(false, 2, tree, "a lambda");
        return null;
    }

    @Override
    public Void visitMemberReference(MemberReferenceTree tree, Void none) {
        need(false, 2, tree, "a method reference");
        return null;
    }

    // Rules 7 and 10

    /** The number of a constant; 0 for what is none, or for one that is 0. */
    private long constant(Tree tree) {
        if (tree instanceof LiteralTree && ((LiteralTree) tree).getValue() instanceof Integer) {
            return (Integer) ((LiteralTree) tree).getValue();
        }
        if (tree instanceof BinaryTree && tree.getKind() == Tree.Kind.MULTIPLY) {
            return constant(((BinaryTree) tree).getLeftOperand()) * constant(((BinaryTree) tree).getRightOperand());
        }
        if (tree instanceof BinaryTree && tree.getKind() == Tree.Kind.PLUS) {
            return constant(((BinaryTree) tree).getLeftOperand()) + constant(((BinaryTree) tree).getRightOperand());
        }
        Element of = elementOf(tree);
        boolean isNumber = of instanceof VariableElement && ((VariableElement) of).getConstantValue() instanceof Integer;
        return isNumber ? (Integer) ((VariableElement) of).getConstantValue() : 0;
    }

    private boolean isWhole(Tree tree) {
        TypeKind kind = typeOf(tree).getKind();
        return kind != TypeKind.FLOAT && kind != TypeKind.DOUBLE;
    }

    @Override
    public Void visitBinary(BinaryTree tree, Void none) {
        boolean isDivided = tree.getKind() == Tree.Kind.DIVIDE || tree.getKind() == Tree.Kind.REMAINDER;
        if (isDivided && isWhole(tree)) {
            need(constant(tree.getRightOperand()) > 0, 7, tree, "a divisor that is no constant: " + tree);
        }
        need(typeOf(tree).getKind() != TypeKind.DECLARED, 10, tree, "joins texts: " + tree);
        return super.visitBinary(tree, none);
    }

    @Override
    public Void visitCompoundAssignment(CompoundAssignmentTree tree, Void none) {
        boolean isDivided = tree.getKind() == Tree.Kind.DIVIDE_ASSIGNMENT || tree.getKind() == Tree.Kind.REMAINDER_ASSIGNMENT;
        need(!isDivided, 7, tree, "a divisor: " + tree);
        need(typeOf(tree.getVariable()).getKind() != TypeKind.DECLARED, 10, tree, "joins texts: " + tree);
        return super.visitCompoundAssignment(tree, none);
    }

    @Override
    public Void visitTypeCast(TypeCastTree tree, Void none) {
        need(typeOf(tree).getKind().isPrimitive(), 7, tree, "a cast of a reference");
        return super.visitTypeCast(tree, none);
    }

    // Rule 9: each loop names its end, and nothing but it.

    @Override
    public Void visitForLoop(ForLoopTree tree, Void none) {
        boolean isCounted = tree.getCondition() != null && tree.getInitializer().size() == 1 && tree.getUpdate().size() == 1;
        need(isCounted, 9, tree, "a loop that does not count");
        if (isCounted && tree.getInitializer().get(0) instanceof VariableTree) {
            String counter = ((VariableTree) tree.getInitializer().get(0)).getName().toString();
            need(tree.getCondition().toString().matches(".*\\b" + counter + " (<|<=|>|>=) .*"), 9, tree, "no bound");
            need(tree.getUpdate().get(0).toString().matches("\\(?" + counter + "\\b.*"), 9, tree, "another counter");
        }
        return super.visitForLoop(tree, none);
    }

    @Override
    public Void visitWhileLoop(WhileLoopTree tree, Void none) {
        need(tree.getCondition().toString().matches(".*\\bdigits < MAX_DIGITS\\b.*"), 9, tree, "no bound that is known");
        return super.visitWhileLoop(tree, none);
    }

    @Override
    public Void visitDoWhileLoop(DoWhileLoopTree tree, Void none) {
        need(false, 9, tree, "no bound that is known");
        return super.visitDoWhileLoop(tree, none);
    }

    private void checkSigns() throws IOException {
        for (String line : Files.readAllLines(SOURCE)) {
            need(line.chars().allMatch(sign -> sign >= 32 && sign < 127), 4, unit, "another sign in: " + line);
        }
    }

    public static void main(String[] args) throws IOException {
        JavaCompiler compiler = ToolProvider.getSystemJavaCompiler();
        LanguageTests tests;
        try (StandardJavaFileManager files = compiler.getStandardFileManager(null, null, null)) {
            JavacTask task = (JavacTask) compiler.getTask(null, files, null, List.of("-proc:none"), null,
                    files.getJavaFileObjects(SOURCE));
            CompilationUnitTree unit = task.parse().iterator().next();
            task.analyze();
            tests = new LanguageTests(Trees.instance(task), unit);
            tests.scan(unit, null);
            tests.checkWhole();
            tests.checkSigns();
        }
        System.out.println("LanguageTests: " + tests.seen + " places looked at, " + tests.wrong + " wrong");
        if (tests.wrong > 0) {
            System.exit(1);
        }
    }
}
