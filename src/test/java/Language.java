import com.sun.source.tree.ArrayAccessTree;
import com.sun.source.tree.AssertTree;
import com.sun.source.tree.AssignmentTree;
import com.sun.source.tree.BinaryTree;
import com.sun.source.tree.BlockTree;
import com.sun.source.tree.ClassTree;
import com.sun.source.tree.CompilationUnitTree;
import com.sun.source.tree.CompoundAssignmentTree;
import com.sun.source.tree.ConditionalExpressionTree;
import com.sun.source.tree.DoWhileLoopTree;
import com.sun.source.tree.EnhancedForLoopTree;
import com.sun.source.tree.ExpressionTree;
import com.sun.source.tree.ForLoopTree;
import com.sun.source.tree.IfTree;
import com.sun.source.tree.ImportTree;
import com.sun.source.tree.LambdaExpressionTree;
import com.sun.source.tree.LiteralTree;
import com.sun.source.tree.MemberReferenceTree;
import com.sun.source.tree.MethodInvocationTree;
import com.sun.source.tree.MethodTree;
import com.sun.source.tree.NewArrayTree;
import com.sun.source.tree.NewClassTree;
import com.sun.source.tree.SynchronizedTree;
import com.sun.source.tree.ThrowTree;
import com.sun.source.tree.Tree;
import com.sun.source.tree.TryTree;
import com.sun.source.tree.TypeCastTree;
import com.sun.source.tree.UnaryTree;
import com.sun.source.tree.VariableTree;
import com.sun.source.tree.WhileLoopTree;
import com.sun.source.util.JavacTask;
import com.sun.source.util.TreePath;
import com.sun.source.util.TreePathScanner;
import com.sun.source.util.Trees;
import java.io.IOException;
import java.net.URI;
import java.util.ArrayList;
import java.util.HashMap;
import java.util.LinkedHashSet;
import java.util.List;
import java.util.Map;
import java.util.Set;
import java.util.TreeSet;
import javax.lang.model.element.Element;
import javax.lang.model.element.ElementKind;
import javax.lang.model.element.ExecutableElement;
import javax.lang.model.element.Modifier;
import javax.lang.model.element.TypeElement;
import javax.lang.model.element.VariableElement;
import javax.lang.model.type.ArrayType;
import javax.lang.model.type.DeclaredType;
import javax.lang.model.type.TypeKind;
import javax.lang.model.type.TypeMirror;
import javax.tools.DiagnosticCollector;
import javax.tools.JavaFileObject;
import javax.tools.SimpleJavaFileObject;
import javax.tools.ToolProvider;

/** Looks through a source for what LANGUAGE.md rules out, as far as the source alone can show it. */
final class Language extends TreePathScanner<Void, Void> {
    private static final int MOST_LINES = 60;
    private static final int MOST_CLASSES = 12;
    private static final int MOST_FIELDS = 20;
    private static final int MOST_PARAMETERS = 7;
    private static final int DEEPEST_CALL = 8;
    private static final Set<String> IMPORTS = Set.of("java.util.NoSuchElementException", "java.util.ArrayList",
        "java.util.List", "java.util.Arrays", "java.util.Iterator");
    private static final Set<String> LIBRARY_TYPES = Set.of("java.lang.String", "java.lang.StringBuilder",
        "java.util.ArrayList", "java.util.List", "java.lang.Integer");
    private static final Set<String> CALLS = Set.of("String.length", "String.charAt", "String.isEmpty", "String.equals",
        "String.indexOf", "String.substring", "String.toCharArray", "StringBuilder.append", "StringBuilder.charAt",
        "StringBuilder.setCharAt", "StringBuilder.setLength", "StringBuilder.deleteCharAt", "StringBuilder.reverse",
        "StringBuilder.length", "StringBuilder.toString", "List.add", "List.get", "List.set", "List.remove", "List.size",
        "List.isEmpty", "List.clear", "List.of", "ArrayList.add", "ArrayList.get", "ArrayList.set", "ArrayList.remove",
        "ArrayList.size", "ArrayList.isEmpty", "ArrayList.clear", "System.arraycopy", "Arrays.copyOf",
        "Arrays.copyOfRange", "Arrays.fill");
    private static final Set<String> NUMBER_CLASSES = Set.of("Integer", "Long", "Math");
    private static final Set<String> EXCEPTIONS = Set.of("IllegalStateException", "IllegalArgumentException",
        "IndexOutOfBoundsException", "ArithmeticException", "UnsupportedOperationException", "NoSuchElementException",
        "RuntimeException");
    private static final Set<TypeKind> STATIC_ROWS = Set.of(TypeKind.INT, TypeKind.LONG, TypeKind.CHAR, TypeKind.BYTE);

    private final Trees trees;
    private final CompilationUnitTree unit;
    private final List<String> faults = new ArrayList<>();
    /** What is thrown, by the method that holds the throw. */
    private final Set<String> thrown = new TreeSet<>();
    private final Set<String> faceNames = new TreeSet<>();
    private final Map<Element, Set<Element>> calls = new HashMap<>();
    private int classes = 0;

    private Language(Trees trees, CompilationUnitTree unit) {
        this.trees = trees;
        this.unit = unit;
    }

    /** A line for each breach, which begins with the rule's number. */
    static List<String> faultsOf(String name, String source) throws IOException {
        return look(name, source).faults;
    }

    static Set<String> thrownIn(String name, String source) throws IOException {
        return look(name, source).thrown;
    }

    private static Language look(String name, String source) throws IOException {
        JavaFileObject file = new SimpleJavaFileObject(URI.create("string:///" + name + ".java"),
            JavaFileObject.Kind.SOURCE) {
            @Override
            public CharSequence getCharContent(boolean ignoreEncodingErrors) {
                return source;
            }
        };
        DiagnosticCollector<JavaFileObject> said = new DiagnosticCollector<>();
        JavacTask task = (JavacTask) ToolProvider.getSystemJavaCompiler()
            .getTask(null, null, said, List.of("-proc:none"), null, List.of(file));
        CompilationUnitTree unit = task.parse().iterator().next();
        task.analyze();
        Language scan = new Language(Trees.instance(task), unit);
        if (!said.getDiagnostics().isEmpty()) {
            scan.faults.add("the compiler says " + said.getDiagnostics());
        }
        scan.scan(unit, null);
        scan.lookAtDepth();
        return scan;
    }

    private void fault(int rule, Tree at, String what) {
        long position = trees.getSourcePositions().getStartPosition(unit, at);
        faults.add("rule " + rule + ", line " + unit.getLineMap().getLineNumber(position) + ": " + what);
    }

    private TypeMirror typeOf(Tree tree) {
        return trees.getTypeMirror(new TreePath(getCurrentPath(), tree));
    }

    private Element elementOf(Tree tree) {
        return trees.getElement(new TreePath(getCurrentPath(), tree));
    }

    private boolean isOwn(Element element) {
        Element outer = element;
        while (outer.getEnclosingElement() != null && outer.getEnclosingElement().getKind() != ElementKind.PACKAGE) {
            outer = outer.getEnclosingElement();
        }
        return trees.getTree(outer) != null;
    }

    private static boolean isNamed(TypeMirror type, String name) {
        return type instanceof DeclaredType declared
            && ((TypeElement) declared.asElement()).getQualifiedName().contentEquals(name);
    }

    /** The tree of that sort round the place that is looked at, within its method; null: none. */
    private Tree around(Set<Tree.Kind> kinds) {
        TreePath path = getCurrentPath().getParentPath();
        while (path != null && path.getLeaf().getKind() != Tree.Kind.CLASS) {
            if (kinds.contains(path.getLeaf().getKind())) {
                return path.getLeaf();
            }
            path = path.getParentPath();
        }
        return null;
    }

    private MethodTree method() {
        return (MethodTree) around(Set.of(Tree.Kind.METHOD));
    }

    private boolean isInConstructor() {
        MethodTree method = method();
        return method != null && method.getName().contentEquals("<init>");
    }

    private boolean isInLoop() {
        return around(Set.of(Tree.Kind.FOR_LOOP, Tree.Kind.ENHANCED_FOR_LOOP, Tree.Kind.WHILE_LOOP,
            Tree.Kind.DO_WHILE_LOOP)) != null;
    }

    // ---- classes, fields and methods

    @Override
    public Void visitImport(ImportTree node, Void p) {
        String name = node.getQualifiedIdentifier().toString();
        if (!IMPORTS.contains(name)) {
            fault(4, node, "import " + name);
        }
        return super.visitImport(node, p);
    }

    @Override
    public Void visitClass(ClassTree node, Void p) {
        classes++;
        if (classes == MOST_CLASSES + 1) {
            fault(11, node, "more than " + MOST_CLASSES + " classes");
        }
        Set<Modifier> flags = node.getModifiers().getFlags();
        Tree outer = getCurrentPath().getParentPath().getLeaf();
        if (outer instanceof ClassTree) {
            if (!flags.contains(Modifier.STATIC) || flags.contains(Modifier.PUBLIC) || flags.contains(Modifier.PROTECTED)) {
                fault(1, node, node.getSimpleName() + " is not static, or can be seen");
            }
        } else if (!(outer instanceof CompilationUnitTree)) {
            fault(2, node, "a class within a method");
        } else if (!flags.contains(Modifier.PUBLIC) || !flags.contains(Modifier.FINAL)) {
            fault(1, node, node.getSimpleName() + " is not public and final");
        }
        lookAtMembers(node, outer instanceof CompilationUnitTree);
        return super.visitClass(node, p);
    }

    private void lookAtMembers(ClassTree node, boolean isFace) {
        int fields = 0;
        for (Tree member : node.getMembers()) {
            if (member instanceof VariableTree field && !field.getModifiers().getFlags().contains(Modifier.STATIC)) {
                fields++;
            } else if (member instanceof BlockTree block && block.isStatic()) {
                fault(5, block, "a static block");
            } else if (isFace && member instanceof MethodTree method
                && method.getModifiers().getFlags().contains(Modifier.PUBLIC)) {
                faceNames.add(method.getName().toString());
            }
        }
        if (fields > MOST_FIELDS) {
            fault(11, node, node.getSimpleName() + " has " + fields + " fields");
        }
    }

    @Override
    public Void visitMethod(MethodTree node, Void p) {
        long from = unit.getLineMap().getLineNumber(trees.getSourcePositions().getStartPosition(unit, node));
        long to = unit.getLineMap().getLineNumber(trees.getSourcePositions().getEndPosition(unit, node));
        String name = node.getName().toString();
        if (to - from >= MOST_LINES) {
            fault(11, node, name + " has " + (to - from + 1) + " lines");
        }
        if (node.getParameters().size() > MOST_PARAMETERS) {
            fault(11, node, name + " has " + node.getParameters().size() + " parameters");
        }
        boolean isOfFace = getCurrentPath().getParentPath().getParentPath().getLeaf() instanceof CompilationUnitTree
            && node.getModifiers().getFlags().contains(Modifier.PUBLIC);
        if (faceNames.contains(name) && !isOfFace && !name.equals("<init>")) {
            fault(1, node, name + " bears the name of a public method");
        }
        if (Set.of("equals", "hashCode", "toString").contains(name)) {
            fault(6, node, name);
        }
        if (node.getReturnType() != null && !isAllowed(typeOf(node.getReturnType()))) {
            fault(3, node, name + " answers " + node.getReturnType());
        }
        return super.visitMethod(node, p);
    }

    @Override
    public Void visitVariable(VariableTree node, Void p) {
        TypeMirror type = trees.getTypeMirror(getCurrentPath());
        if (!isAllowed(type)) {
            fault(3, node, "the type of " + node);
        }
        if (node.getModifiers().getFlags().contains(Modifier.STATIC)) {
            lookAtStatic(node, type);
        }
        return super.visitVariable(node, p);
    }

    private void lookAtStatic(VariableTree node, TypeMirror type) {
        VariableElement field = (VariableElement) trees.getElement(getCurrentPath());
        boolean isRow = type instanceof ArrayType array && STATIC_ROWS.contains(array.getComponentType().getKind())
            && node.getInitializer() instanceof NewArrayTree made && made.getInitializers() != null;
        if (!field.getModifiers().contains(Modifier.FINAL) || field.getConstantValue() == null && !isRow) {
            fault(5, node, "the static field " + node);
        }
    }

    private boolean isAllowed(TypeMirror type) {
        if (type instanceof ArrayType array) {
            TypeMirror part = array.getComponentType();
            if (part instanceof ArrayType rows) {
                TypeKind kind = rows.getComponentType().getKind();
                return kind.isPrimitive() && kind != TypeKind.BOOLEAN;
            }
            return part.getKind().isPrimitive() || part instanceof DeclaredType own && isOwn(own.asElement());
        }
        if (type instanceof DeclaredType declared) {
            String name = ((TypeElement) declared.asElement()).getQualifiedName().toString();
            return isOwn(declared.asElement()) || LIBRARY_TYPES.contains(name);
        }
        return type.getKind().isPrimitive() || type.getKind() == TypeKind.VOID;
    }

    // ---- calls and what is made

    @Override
    public Void visitMethodInvocation(MethodInvocationTree node, Void p) {
        ExecutableElement called = (ExecutableElement) trees.getElement(getCurrentPath());
        String owner = called.getEnclosingElement().getSimpleName().toString();
        String name = called.getSimpleName().toString();
        if (called.getKind() == ElementKind.CONSTRUCTOR) {
            return super.visitMethodInvocation(node, p);
        }
        if (isInConstructor()) {
            fault(12, node, "a constructor calls " + name);
        }
        if (isOwn(called)) {
            addCall(called);
        } else if (name.endsWith("Exact") || !NUMBER_CLASSES.contains(owner) && !CALLS.contains(owner + "." + name)) {
            fault(4, node, owner + "." + name);
        }
        if (name.equals("arraycopy") && isStaticRow(node.getArguments().get(2))) {
            fault(5, node, "a row that is a constant is changed");
        }
        return super.visitMethodInvocation(node, p);
    }

    private void addCall(Element called) {
        MethodTree method = method();
        if (method != null) {
            Element caller = trees.getElement(trees.getPath(unit, method));
            calls.computeIfAbsent(caller, key -> new LinkedHashSet<>()).add(called);
        }
    }

    @Override
    public Void visitNewClass(NewClassTree node, Void p) {
        Element made = ((ExecutableElement) trees.getElement(getCurrentPath())).getEnclosingElement();
        boolean isThrown = getCurrentPath().getParentPath().getLeaf() instanceof ThrowTree;
        if (!isOwn(made) && !isThrown && !LIBRARY_TYPES.contains(made.toString())) {
            fault(4, node, "new " + made);
        }
        if (isInLoop() && !isInConstructor()) {
            fault(12, node, "an object is made in a loop");
        }
        return super.visitNewClass(node, p);
    }

    @Override
    public Void visitNewArray(NewArrayTree node, Void p) {
        if (isInLoop() && !isInConstructor()) {
            fault(12, node, "a row is made in a loop");
        }
        return super.visitNewArray(node, p);
    }

    @Override
    public Void visitThrow(ThrowTree node, Void p) {
        MethodTree method = method();
        if (node.getExpression() instanceof NewClassTree made && EXCEPTIONS.contains(made.getIdentifier().toString())
            && made.getArguments().stream().allMatch(text -> text.getKind() == Tree.Kind.STRING_LITERAL)) {
            thrown.add(made.getIdentifier() + " in " + (method == null ? "no method" : method.getName()));
        } else {
            fault(6, node, node.toString());
        }
        if (isInConstructor()) {
            fault(6, node, "a throw in a constructor");
        }
        return super.visitThrow(node, p);
    }

    // ---- what no line may hold

    @Override
    public Void visitLambdaExpression(LambdaExpressionTree node, Void p) {
        fault(2, node, "a lambda");
        return super.visitLambdaExpression(node, p);
    }

    @Override
    public Void visitMemberReference(MemberReferenceTree node, Void p) {
        fault(2, node, "a method reference");
        return super.visitMemberReference(node, p);
    }

    @Override
    public Void visitSynchronized(SynchronizedTree node, Void p) {
        fault(6, node, "synchronized");
        return super.visitSynchronized(node, p);
    }

    @Override
    public Void visitAssert(AssertTree node, Void p) {
        fault(6, node, "assert");
        return super.visitAssert(node, p);
    }

    /** The rules allow some, but no promise needs one, and one might catch what the machine throws. */
    @Override
    public Void visitTry(TryTree node, Void p) {
        fault(6, node, "try");
        return super.visitTry(node, p);
    }

    @Override
    public Void visitTypeCast(TypeCastTree node, Void p) {
        if (!typeOf(node.getType()).getKind().isPrimitive()) {
            fault(6, node, "a cast of a reference");
        }
        return super.visitTypeCast(node, p);
    }

    @Override
    public Void visitLiteral(LiteralTree node, Void p) {
        if (node.getValue() instanceof String text && !text.chars().allMatch(sign -> sign >= 1 && sign <= 127)) {
            fault(4, node, "a sign of a text");
        }
        return super.visitLiteral(node, p);
    }

    // ---- sums, divisors, comparisons, rows

    @Override
    public Void visitBinary(BinaryTree node, Void p) {
        TypeMirror left = typeOf(node.getLeftOperand());
        TypeMirror right = typeOf(node.getRightOperand());
        switch (node.getKind()) {
            case PLUS -> {
                if (isNamed(left, "java.lang.String") || isNamed(right, "java.lang.String")) {
                    fault(10, node, "texts joined by +");
                }
            }
            case EQUAL_TO, NOT_EQUAL_TO -> {
                for (String name : List.of("java.lang.String", "java.lang.Integer")) {
                    if (isNamed(left, name) && isNamed(right, name)) {
                        fault(6, node, "== between two of " + name);
                    }
                }
            }
            case DIVIDE, REMAINDER -> lookAtDivisor(node, node.getRightOperand());
            default -> { }
        }
        return super.visitBinary(node, p);
    }

    @Override
    public Void visitCompoundAssignment(CompoundAssignmentTree node, Void p) {
        if (node.getKind() == Tree.Kind.DIVIDE_ASSIGNMENT || node.getKind() == Tree.Kind.REMAINDER_ASSIGNMENT) {
            lookAtDivisor(node, node.getExpression());
        }
        if (isNamed(typeOf(node.getVariable()), "java.lang.String")) {
            fault(10, node, "texts joined by +=");
        }
        lookAtChange(node.getVariable());
        return super.visitCompoundAssignment(node, p);
    }

    /** A divisor is a written number, a constant, or a name that a question round it asks for. */
    private void lookAtDivisor(Tree node, ExpressionTree divisor) {
        if (divisor instanceof LiteralTree number && !number.getValue().equals(0)) {
            return;
        }
        if (elementOf(divisor) instanceof VariableElement field && field.getConstantValue() != null
            && !field.getConstantValue().equals(0)) {
            return;
        }
        for (TreePath path = getCurrentPath(); path != null; path = path.getParentPath()) {
            Tree leaf = path.getLeaf();
            Tree question = leaf instanceof ConditionalExpressionTree choice ? choice.getCondition()
                : leaf instanceof IfTree choice ? choice.getCondition() : null;
            if (question != null && question.toString().matches(".*\\b" + divisor + "\\b.*")) {
                return;
            }
        }
        fault(7, node, "nothing asks whether " + divisor + " is 0");
    }

    @Override
    public Void visitAssignment(AssignmentTree node, Void p) {
        lookAtChange(node.getVariable());
        return super.visitAssignment(node, p);
    }

    @Override
    public Void visitUnary(UnaryTree node, Void p) {
        if (node.getKind().name().endsWith("CREMENT")) {
            lookAtChange(node.getExpression());
        }
        return super.visitUnary(node, p);
    }

    private void lookAtChange(ExpressionTree changed) {
        if (changed instanceof ArrayAccessTree access && isStaticRow(access.getExpression())) {
            fault(5, changed, "a row that is a constant is changed");
        }
    }

    private boolean isStaticRow(ExpressionTree row) {
        return elementOf(row) instanceof VariableElement field && field.getModifiers().contains(Modifier.STATIC);
    }

    // ---- loops

    @Override
    public Void visitForLoop(ForLoopTree node, Void p) {
        lookAtBound(node, node.getCondition());
        return super.visitForLoop(node, p);
    }

    @Override
    public Void visitWhileLoop(WhileLoopTree node, Void p) {
        lookAtBound(node, node.getCondition());
        return super.visitWhileLoop(node, p);
    }

    @Override
    public Void visitDoWhileLoop(DoWhileLoopTree node, Void p) {
        lookAtBound(node, node.getCondition());
        return super.visitDoWhileLoop(node, p);
    }

    @Override
    public Void visitEnhancedForLoop(EnhancedForLoopTree node, Void p) {
        if (!(typeOf(node.getExpression()) instanceof ArrayType)) {
            fault(12, node, "a loop over a list makes its iterator");
        }
        return super.visitEnhancedForLoop(node, p);
    }

    private void lookAtBound(Tree node, ExpressionTree condition) {
        if (condition == null || !condition.toString().matches(".*[<>].*")) {
            fault(9, node, "the loop's own lines show no bound");
        }
    }

    // ---- how deep calls go

    private void lookAtDepth() {
        for (Element method : List.copyOf(calls.keySet())) {
            boolean carriesDepth = ((ExecutableElement) method).getParameters().stream()
                .anyMatch(parameter -> parameter.getSimpleName().contentEquals("depth"));
            if (reaches(method, method) && !carriesDepth) {
                fault(8, trees.getTree(method), method + " comes back to itself without a depth");
            }
            if (depthFrom(method) > DEEPEST_CALL) {
                fault(11, trees.getTree(method), "calls from " + method + " go more than " + DEEPEST_CALL + " deep");
            }
        }
    }

    private boolean reaches(Element from, Element to) {
        Set<Element> found = new LinkedHashSet<>(calls.getOrDefault(from, Set.of()));
        List<Element> next = new ArrayList<>(found);
        for (int k = 0; k < next.size(); k++) {
            for (Element called : calls.getOrDefault(next.get(k), Set.of())) {
                if (found.add(called)) {
                    next.add(called);
                }
            }
        }
        return found.contains(to);
    }

    /** How many calls stand open on the longest way on; those that come back to one another count as one. */
    private int depthFrom(Element method) {
        int deepest = 0;
        for (Element one : cycleOf(method)) {
            for (Element called : calls.getOrDefault(one, Set.of())) {
                if (!reaches(called, method)) {
                    deepest = Math.max(deepest, depthFrom(called));
                }
            }
        }
        return deepest + 1;
    }

    private Set<Element> cycleOf(Element method) {
        Set<Element> cycle = new LinkedHashSet<>(Set.of(method));
        for (Element other : calls.keySet()) {
            if (reaches(method, other) && reaches(other, method)) {
                cycle.add(other);
            }
        }
        return cycle;
    }
}
