import com.sun.source.tree.*;
import com.sun.source.util.JavacTask;
import com.sun.source.util.TreePath;
import com.sun.source.util.TreePathScanner;
import com.sun.source.util.Trees;
import java.io.IOException;
import java.net.URI;
import java.util.ArrayList;
import java.util.HashMap;
import java.util.List;
import java.util.Map;
import java.util.Set;
import java.util.TreeSet;
import java.util.regex.Matcher;
import java.util.regex.Pattern;
import javax.lang.model.element.Element;
import javax.lang.model.element.Modifier;
import javax.lang.model.element.VariableElement;
import javax.lang.model.type.ArrayType;
import javax.lang.model.type.TypeKind;
import javax.lang.model.type.TypeMirror;
import javax.tools.Diagnostic;
import javax.tools.DiagnosticCollector;
import javax.tools.JavaFileObject;
import javax.tools.SimpleJavaFileObject;
import javax.tools.ToolProvider;

/**
 * Goes through a program by the compiler's own tree, and lists where it leaves ../shared/LANGUAGE.md, rule by rule.
 * It is stricter than the rules where the program does without what they allow.
 */
final class Language extends TreePathScanner<Void, Void> {
    private static final Set<String> LIBRARY = Set.of("java.lang.Math.max", "java.lang.Math.min",
            "java.lang.Math.abs", "java.lang.Math.floorMod", "java.lang.Math.floorDiv", "java.lang.Object.<init>");
    private static final Set<String> EXCEPTIONS = Set.of("java.lang.IllegalStateException",
            "java.lang.IllegalArgumentException", "java.lang.IndexOutOfBoundsException",
            "java.lang.ArithmeticException", "java.lang.UnsupportedOperationException",
            "java.util.NoSuchElementException", "java.lang.RuntimeException");
    private static final int MOST_PARAMETERS = 7;
    private static final int MOST_LINES = 60;
    private static final int MOST_DEPTH = 8;
    private static final int MOST_CLASSES = 12;
    private static final int MOST_FIELDS = 20;

    private final List<String> faults = new ArrayList<>();
    private final Map<String, Set<String>> calls = new HashMap<>();
    private final Set<String> publicNames = new TreeSet<>();
    private final Set<String> otherNames = new TreeSet<>();
    private final Trees trees;
    private final CompilationUnitTree unit;
    private String method = "";
    private String methodText = "";
    private boolean inConstructor;
    private int classes;

    private Language(Trees trees, CompilationUnitTree unit) {
        this.trees = trees;
        this.unit = unit;
    }

    /** What is wrong with a program, each fault with its rule's number ahead; none, if it keeps to the language. */
    static List<String> faults(String program) throws IOException {
        JavaFileObject file = new SimpleJavaFileObject(URI.create("string:///Saltwedge.java"),
                JavaFileObject.Kind.SOURCE) {
            @Override
            public CharSequence getCharContent(boolean ignoreEncodingErrors) {
                return program;
            }
        };
        DiagnosticCollector<JavaFileObject> said = new DiagnosticCollector<>();
        JavacTask task = (JavacTask) ToolProvider.getSystemJavaCompiler().getTask(null, null, said,
                List.of("-proc:none", "--release", "17"), null, List.of(file));
        CompilationUnitTree unit = task.parse().iterator().next();
        task.analyze();
        Language language = new Language(Trees.instance(task), unit);
        for (Diagnostic<?> diagnostic : said.getDiagnostics()) {
            if (diagnostic.getKind() == Diagnostic.Kind.ERROR) {
                language.fault(0, "it does not compile: " + diagnostic);
            }
        }
        language.scan(unit, null);
        language.end();
        return language.faults;
    }

    private void fault(int rule, String what) {
        faults.add("rule " + rule + ": " + what + (method.isEmpty() ? "" : " in " + method));
    }

    private void end() {
        method = "";
        for (String name : otherNames) {
            if (publicNames.contains(name)) {
                fault(1, "a method that is not public bears the name " + name);
            }
        }
        if (classes > MOST_CLASSES) {
            fault(11, classes + " classes");
        }
        for (String name : calls.keySet()) {
            int depth = depth(name, new ArrayList<>());
            if (depth > MOST_DEPTH) {
                fault(depth > 1000 ? 8 : 11, name + " goes " + depth + " deep");
            }
        }
    }

    /** How many calls stand open at once at most, with this one; far too many, if it calls itself. */
    private int depth(String name, List<String> open) {
        if (open.contains(name)) {
            return 1_000_000;
        }
        open.add(name);
        int deepest = 0;
        for (String next : calls.getOrDefault(name, Set.of())) {
            deepest = Math.max(deepest, depth(next, open));
        }
        open.remove(name);
        return deepest + 1;
    }

    @Override
    public Void visitCompilationUnit(CompilationUnitTree node, Void none) {
        if (node.getPackage() != null || node.getTypeDecls().size() != 1) {
            fault(1, "a package line, or not one class");
        }
        if (!node.toString().chars().allMatch(sign -> sign < 127)) {
            fault(4, "a sign that is none of 1 to 126");
        }
        return super.visitCompilationUnit(node, none);
    }

    @Override
    public Void visitImport(ImportTree node, Void none) {
        fault(4, "an import of " + node.getQualifiedIdentifier());
        return null;
    }

    @Override
    public Void visitClass(ClassTree node, Void none) {
        classes++;
        Tree outer = getCurrentPath().getParentPath().getLeaf();
        Set<Modifier> flags = node.getModifiers().getFlags();
        if (outer == unit && !flags.containsAll(Set.of(Modifier.PUBLIC, Modifier.FINAL))) {
            fault(1, "the class is not public and final");
        }
        boolean open = flags.contains(Modifier.PUBLIC) || flags.contains(Modifier.PROTECTED);
        if (outer != unit && (open || !flags.contains(Modifier.STATIC) || !(outer instanceof ClassTree))) {
            fault(2, "the class " + node.getSimpleName() + " inside is not static and hidden");
        }
        int fields = 0;
        for (Tree member : node.getMembers()) {
            if (member instanceof BlockTree) {
                fault(((BlockTree) member).isStatic() ? 5 : 12, "a block that stands in a class");
            }
            if (member instanceof VariableTree) {
                fields += ((VariableTree) member).getModifiers().getFlags().contains(Modifier.STATIC) ? 0 : 1;
                seeField((VariableTree) member, outer == unit);
            }
        }
        if (fields > MOST_FIELDS) {
            fault(11, node.getSimpleName() + " has " + fields + " fields");
        }
        return super.visitClass(node, none);
    }

    private void seeField(VariableTree field, boolean ofTheFace) {
        Set<Modifier> flags = field.getModifiers().getFlags();
        boolean constant = field.getInitializer() instanceof LiteralTree || field.getInitializer() instanceof UnaryTree
                || field.getInitializer() instanceof NewArrayTree;
        if (flags.contains(Modifier.STATIC) && (!flags.contains(Modifier.FINAL) || !constant)) {
            fault(5, "the static field " + field.getName() + " is no constant");
        }
        if (ofTheFace && !flags.contains(Modifier.PRIVATE) && !field.getName().contentEquals("NONE")) {
            fault(1, "the field " + field.getName() + " is not private");
        }
    }

    @Override
    public Void visitMethod(MethodTree node, Void none) {
        Element element = trees.getElement(getCurrentPath());
        String before = method;
        String textBefore = methodText;
        boolean constructorBefore = inConstructor;
        method = name(element);
        methodText = node.toString();
        inConstructor = node.getReturnType() == null;
        calls.computeIfAbsent(method, key -> new TreeSet<>());
        boolean ofTheFace = element.getEnclosingElement().toString().equals("Saltwedge");
        if (ofTheFace && !element.getModifiers().contains(Modifier.PUBLIC)
                && !element.getModifiers().contains(Modifier.PRIVATE)) {
            fault(1, "a method that is neither public nor private");
        }
        if (!inConstructor) {
            Set<String> names = element.getModifiers().contains(Modifier.PUBLIC) ? publicNames : otherNames;
            names.add(node.getName().toString());
        }
        if (Set.of("equals", "hashCode", "toString").contains(node.getName().toString())) {
            fault(6, "a method " + node.getName());
        }
        if (node.getParameters().size() > MOST_PARAMETERS) {
            fault(11, node.getParameters().size() + " parameters");
        }
        long lines = methodText.lines().count();
        if (lines > MOST_LINES) {
            fault(11, lines + " lines");
        }
        super.visitMethod(node, none);
        method = before;
        methodText = textBefore;
        inConstructor = constructorBefore;
        return null;
    }

    private static String name(Element element) {
        return element.getEnclosingElement() + "." + element.getSimpleName();
    }

    @Override
    public Void visitVariable(VariableTree node, Void none) {
        TypeMirror type = trees.getTypeMirror(getCurrentPath());
        if (!isAllowed(type)) {
            fault(3, "the type " + type + " of " + node.getName());
        }
        return super.visitVariable(node, none);
    }

    private static boolean isAllowed(TypeMirror type) {
        if (type.getKind() == TypeKind.ARRAY) {
            TypeMirror part = ((ArrayType) type).getComponentType();
            return part.getKind() != TypeKind.ARRAY && isAllowed(part);
        }
        return type.getKind().isPrimitive() || type.toString().startsWith("Saltwedge");
    }

    @Override
    public Void visitMethodInvocation(MethodInvocationTree node, Void none) {
        Element called = trees.getElement(new TreePath(getCurrentPath(), node.getMethodSelect()));
        if (called != null) {
            seeCall(name(called));
        }
        return super.visitMethodInvocation(node, none);
    }

    private void seeCall(String name) {
        if (name.startsWith("Saltwedge")) {
            calls.computeIfAbsent(method, key -> new TreeSet<>()).add(name);
        } else if (!LIBRARY.contains(name)) {
            fault(name.contains("Random") || name.contains("System") ? 13 : 4, "a call of " + name);
        }
    }

    @Override
    public Void visitNewClass(NewClassTree node, Void none) {
        Element made = trees.getElement(getCurrentPath());
        boolean thrown = getCurrentPath().getParentPath().getLeaf() instanceof ThrowTree;
        if (made != null && !thrown) {
            seeCall(name(made));
            seeMade("an object");
        }
        return super.visitNewClass(node, none);
    }

    @Override
    public Void visitNewArray(NewArrayTree node, Void none) {
        seeMade("an array");
        return super.visitNewArray(node, none);
    }

    /** All calls of a run live in one room: what is made is made with the object. */
    private void seeMade(String what) {
        if (!method.isEmpty() && !inConstructor) {
            fault(12, what + " is made");
        }
    }

    @Override
    public Void visitThrow(ThrowTree node, Void none) {
        if (inConstructor) {
            fault(6, "a throw in a constructor");
        }
        boolean isNew = node.getExpression() instanceof NewClassTree;
        if (!isNew) {
            fault(6, "a throw of what is not made there");
        } else {
            NewClassTree made = (NewClassTree) node.getExpression();
            Element type = trees.getElement(new TreePath(new TreePath(getCurrentPath(), made), made.getIdentifier()));
            boolean written = true;
            for (ExpressionTree argument : made.getArguments()) {
                written = written && argument instanceof LiteralTree;
            }
            if (type == null || !EXCEPTIONS.contains(type.toString()) || !written || made.getArguments().size() > 1) {
                fault(6, "a throw of " + made);
            }
        }
        return super.visitThrow(node, none);
    }

    @Override
    public Void visitTry(TryTree node, Void none) {
        fault(6, "a try");
        return super.visitTry(node, none);
    }

    @Override
    public Void visitSynchronized(SynchronizedTree node, Void none) {
        fault(6, "synchronized");
        return super.visitSynchronized(node, none);
    }

    @Override
    public Void visitAssert(AssertTree node, Void none) {
        fault(6, "an assert");
        return super.visitAssert(node, none);
    }

    @Override
    public Void visitLambdaExpression(LambdaExpressionTree node, Void none) {
        fault(2, "a lambda");
        return super.visitLambdaExpression(node, none);
    }

    @Override
    public Void visitMemberReference(MemberReferenceTree node, Void none) {
        fault(2, "a method reference");
        return super.visitMemberReference(node, none);
    }

    @Override
    public Void visitLiteral(LiteralTree node, Void none) {
        if (node.getKind() == Tree.Kind.NULL_LITERAL) {
            fault(7, "null");
        }
        return super.visitLiteral(node, none);
    }

    @Override
    public Void visitTypeCast(TypeCastTree node, Void none) {
        if (!(node.getType() instanceof PrimitiveTypeTree)) {
            fault(7, "a cast to " + node.getType());
        }
        return super.visitTypeCast(node, none);
    }

    @Override
    public Void visitBinary(BinaryTree node, Void none) {
        seeOperator(node.getKind(), node.getRightOperand());
        return super.visitBinary(node, none);
    }

    @Override
    public Void visitCompoundAssignment(CompoundAssignmentTree node, Void none) {
        seeOperator(node.getKind(), node.getExpression());
        return super.visitCompoundAssignment(node, none);
    }

    private void seeOperator(Tree.Kind kind, ExpressionTree right) {
        boolean divides = kind == Tree.Kind.DIVIDE || kind == Tree.Kind.REMAINDER
                || kind == Tree.Kind.DIVIDE_ASSIGNMENT || kind == Tree.Kind.REMAINDER_ASSIGNMENT;
        if (divides && !isTested(right)) {
            fault(7, "the divisor " + right + " is not looked at");
        }
        TypeMirror type = trees.getTypeMirror(getCurrentPath());
        if (type != null && type.toString().equals("java.lang.String")) {
            fault(10, "a text that is joined by +");
        }
    }

    /** Whether a divisor is written out, or compared in the method: d <= 0, d <= e and e <= 0, or a <= b for a - b. */
    private boolean isTested(ExpressionTree divisor) {
        ExpressionTree bare = divisor;
        while (bare instanceof ParenthesizedTree) {
            bare = ((ParenthesizedTree) bare).getExpression();
        }
        if (bare instanceof LiteralTree) {
            return !((LiteralTree) bare).getValue().equals(0);
        }
        Element element = trees.getElement(new TreePath(getCurrentPath(), bare));
        if (element instanceof VariableElement && ((VariableElement) element).getConstantValue() != null) {
            return !((VariableElement) element).getConstantValue().equals(0);
        }
        if (bare.getKind() == Tree.Kind.MINUS) {
            BinaryTree less = (BinaryTree) bare;
            return methodText.contains(less.getLeftOperand() + " <= " + less.getRightOperand());
        }
        Matcher compared = Pattern.compile("\\b" + Pattern.quote(bare.toString()) + " <= (\\w+)").matcher(methodText);
        while (compared.find()) {
            String least = compared.group(1);
            if (least.equals("0") || methodText.contains(least + " <= 0")) {
                return true;
            }
        }
        return false;
    }

    @Override
    public Void visitForLoop(ForLoopTree node, Void none) {
        if (node.getUpdate().isEmpty() || !isBounded(node.getCondition())) {
            fault(9, "a loop for (.. " + node.getCondition() + " ..)");
        }
        return super.visitForLoop(node, none);
    }

    @Override
    public Void visitWhileLoop(WhileLoopTree node, Void none) {
        if (!isBounded(node.getCondition()) || !node.getStatement().toString().contains("++")) {
            fault(9, "a loop while " + node.getCondition());
        }
        return super.visitWhileLoop(node, none);
    }

    @Override
    public Void visitDoWhileLoop(DoWhileLoopTree node, Void none) {
        fault(9, "a loop do .. while");
        return super.visitDoWhileLoop(node, none);
    }

    /** A counter against a bound, alone or with something else that must hold as well. */
    private static boolean isBounded(ExpressionTree condition) {
        ExpressionTree bare = condition;
        while (bare instanceof ParenthesizedTree) {
            bare = ((ParenthesizedTree) bare).getExpression();
        }
        if (bare == null) {
            return false;
        }
        if (bare.getKind() == Tree.Kind.CONDITIONAL_AND) {
            BinaryTree both = (BinaryTree) bare;
            return isBounded(both.getLeftOperand()) || isBounded(both.getRightOperand());
        }
        return bare.getKind() == Tree.Kind.LESS_THAN || bare.getKind() == Tree.Kind.LESS_THAN_EQUAL;
    }
}
