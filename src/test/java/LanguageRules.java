import com.sun.source.tree.*;
import com.sun.source.util.JavacTask;
import com.sun.source.util.SourcePositions;
import com.sun.source.util.TreePath;
import com.sun.source.util.TreePathScanner;
import com.sun.source.util.Trees;
import java.io.IOException;
import java.net.URI;
import java.util.ArrayList;
import java.util.LinkedHashMap;
import java.util.LinkedHashSet;
import java.util.List;
import java.util.Map;
import java.util.Set;
import javax.lang.model.element.Element;
import javax.lang.model.element.ElementKind;
import javax.lang.model.element.ExecutableElement;
import javax.lang.model.element.Modifier;
import javax.lang.model.element.TypeElement;
import javax.lang.model.element.VariableElement;
import javax.lang.model.type.ArrayType;
import javax.lang.model.type.DeclaredType;
import javax.lang.model.type.TypeKind;
import javax.lang.model.type.TypeMirror;
import javax.tools.JavaFileObject;
import javax.tools.SimpleJavaFileObject;
import javax.tools.ToolProvider;

/**
 * What of ../shared/LANGUAGE.md the compiler's view of a source tells: each breach as "rule N: .. at line L". Where a
 * rule leaves more than the program needs (recursion, try), this asks for the plainer form that the program has.
 */
final class LanguageRules extends TreePathScanner<Void, Void> {
    private static final int MOST_CLASSES = 12;
    private static final int MOST_FIELDS = 20;
    private static final int MOST_PARAMETERS = 7;
    private static final int MOST_LINES = 60;
    private static final int DEEPEST = 8;
    private static final Set<String> THROWN = Set.of("IllegalStateException", "IllegalArgumentException",
        "IndexOutOfBoundsException", "ArithmeticException", "UnsupportedOperationException", "NoSuchElementException",
        "RuntimeException");
    private static final Set<String> MADE = Set.of("ArrayList", "StringBuilder", "String");
    private static final Map<String, Set<String>> LIBRARY = Map.of(
        "String", Set.of("length", "charAt", "isEmpty", "equals", "indexOf", "substring", "toCharArray"),
        "StringBuilder", Set.of("append", "charAt", "setCharAt", "setLength", "deleteCharAt", "reverse", "length",
            "toString"),
        "ArrayList", Set.of("add", "get", "set", "remove", "size", "isEmpty", "clear"),
        "List", Set.of("add", "get", "set", "remove", "size", "isEmpty", "clear", "of"),
        "System", Set.of("arraycopy"),
        "Arrays", Set.of("copyOf", "copyOfRange", "fill"),
        "Array", Set.of("clone"));
    private static final Set<String> NUMBERS = Set.of("Integer", "Long", "Math");

    private final Trees trees;
    private final SourcePositions positions;
    private final List<String> breaches = new ArrayList<>();
    private final Map<Element, Set<Element>> called = new LinkedHashMap<>();
    private CompilationUnitTree unit;
    private ExecutableElement within;
    private int classes;

    private LanguageRules(JavacTask task) {
        trees = Trees.instance(task);
        positions = trees.getSourcePositions();
    }

    static List<String> breachesOf(String source) throws IOException {
        JavaFileObject file = new SimpleJavaFileObject(URI.create("string:///Marginalia.java"),
                JavaFileObject.Kind.SOURCE) {
            @Override
            public CharSequence getCharContent(boolean ignoreEncodingErrors) {
                return source;
            }
        };
        JavacTask task = (JavacTask) ToolProvider.getSystemJavaCompiler().getTask(null, null, found -> { },
            List.of("-proc:none"), null, List.of(file));
        Iterable<? extends CompilationUnitTree> units = task.parse();
        task.analyze();
        LanguageRules rules = new LanguageRules(task);
        for (CompilationUnitTree unit : units) {
            rules.unit = unit;
            rules.scan(unit, null);
        }
        rules.callsEnd();
        return rules.breaches;
    }

    private void breach(int rule, String words, Tree at) {
        breaches.add("rule " + rule + ": " + words + " at line "
            + unit.getLineMap().getLineNumber(positions.getStartPosition(unit, at)));
    }

    private Element element(Tree tree) {
        return trees.getElement(new TreePath(getCurrentPath(), tree));
    }

    private TypeMirror type(Tree tree) {
        return trees.getTypeMirror(new TreePath(getCurrentPath(), tree));
    }

    private static boolean has(Element element, Modifier modifier) {
        return element.getModifiers().contains(modifier);
    }

    private static boolean isOwn(Element element) {
        Element outer = element;
        while (outer.getEnclosingElement() != null && outer.getEnclosingElement().getKind() != ElementKind.PACKAGE) {
            outer = outer.getEnclosingElement();
        }
        return outer.getSimpleName().contentEquals("Marginalia");
    }

    private static boolean isNamed(TypeMirror type, String name) {
        return type != null && type.getKind() == TypeKind.DECLARED
            && ((DeclaredType) type).asElement().getSimpleName().contentEquals(name);
    }

    // ---- the file and its classes

    @Override
    public Void visitCompilationUnit(CompilationUnitTree tree, Void none) {
        if (tree.getPackageName() != null || tree.getTypeDecls().size() != 1) {
            breach(1, "a package line, or not one class", tree);
        }
        return super.visitCompilationUnit(tree, none);
    }

    @Override
    public Void visitClass(ClassTree tree, Void none) {
        TypeElement element = (TypeElement) trees.getElement(getCurrentPath());
        classes++;
        if (classes > MOST_CLASSES) {
            breach(11, "too many classes", tree);
        }
        if (getCurrentPath().getParentPath().getLeaf() instanceof CompilationUnitTree) {
            face(tree, element);
        } else if (!has(element, Modifier.STATIC) || has(element, Modifier.PUBLIC) || has(element, Modifier.PROTECTED)) {
            breach(1, "a class inside that is not static, or seen from outside", tree);
        }
        int fields = 0;
        for (Tree member : tree.getMembers()) {
            if (member instanceof BlockTree && ((BlockTree) member).isStatic()) {
                breach(5, "a static initialiser block", member);
            }
            fields += member instanceof VariableTree && !has(element(member), Modifier.STATIC) ? 1 : 0;
        }
        if (fields > MOST_FIELDS) {
            breach(11, "too many fields", tree);
        }
        if (isNamed(element.getSuperclass(), "Exception") || isNamed(element.getSuperclass(), "RuntimeException")) {
            breach(6, "an exception class", tree);
        }
        return super.visitClass(tree, none);
    }

    private void face(ClassTree tree, TypeElement element) {
        if (!has(element, Modifier.PUBLIC) || !has(element, Modifier.FINAL)) {
            breach(1, "the class is not public and final", tree);
        }
        Set<String> open = new LinkedHashSet<>();
        for (Element member : element.getEnclosedElements()) {
            if (has(member, Modifier.PUBLIC)) {
                open.add(member.getSimpleName().toString());
            } else if (!has(member, Modifier.PRIVATE) && !(member instanceof TypeElement)) {
                breach(1, member + " is seen from outside", tree);
            }
        }
        for (Element member : element.getEnclosedElements()) {
            if (member instanceof ExecutableElement && has(member, Modifier.PRIVATE)
                    && open.contains(member.getSimpleName().toString())) {
                breach(1, member + " bears the name of a public one", tree);
            }
        }
    }

    // ---- what holds values

    @Override
    public Void visitVariable(VariableTree tree, Void none) {
        VariableElement element = (VariableElement) trees.getElement(getCurrentPath());
        if (element != null) {
            isKept(element.asType(), tree);
            if (element.getKind() == ElementKind.FIELD && has(element, Modifier.STATIC)) {
                staticField(tree, element);
            }
            if (has(element, Modifier.VOLATILE) || has(element, Modifier.TRANSIENT)) {
                breach(6, "volatile or transient", tree);
            }
        }
        return super.visitVariable(tree, none);
    }

    private void staticField(VariableTree tree, VariableElement element) {
        TypeMirror type = element.asType();
        boolean isWritten = type.getKind() == TypeKind.ARRAY && tree.getInitializer() instanceof NewArrayTree
            && ((NewArrayTree) tree.getInitializer()).getInitializers() != null
            && Set.of("int[]", "long[]", "char[]", "byte[]").contains(type.toString());
        boolean isConstant = Set.of("int", "long", "boolean", "char", "java.lang.String").contains(type.toString())
            && element.getConstantValue() != null;
        if (!has(element, Modifier.FINAL) || !isWritten && !isConstant) {
            breach(5, "a static field that is no constant", tree);
        }
    }

    private void isKept(TypeMirror type, Tree at) {
        TypeMirror inner = type;
        int dimensions = 0;
        while (inner.getKind() == TypeKind.ARRAY) {
            inner = ((ArrayType) inner).getComponentType();
            dimensions++;
        }
        boolean isNumber = inner.getKind().isPrimitive() && inner.getKind() != TypeKind.BOOLEAN;
        boolean isFit = inner.getKind().isPrimitive() || inner.getKind() == TypeKind.VOID
            || inner.getKind() == TypeKind.TYPEVAR;
        if (inner.getKind() == TypeKind.DECLARED) {
            Element element = ((DeclaredType) inner).asElement();
            String name = element.getSimpleName().toString();
            isFit = isOwn(element) || dimensions == 0
                && (Set.of("String", "StringBuilder", "Integer", "ArrayList", "List").contains(name)
                    || THROWN.contains(name));
        }
        if (!isFit || dimensions > 2 || dimensions == 2 && !isNumber) {
            breach(3, type + " is none of its types", at);
        }
    }

    // ---- methods

    @Override
    public Void visitMethod(MethodTree tree, Void none) {
        ExecutableElement element = (ExecutableElement) trees.getElement(getCurrentPath());
        ExecutableElement outer = within;
        within = element;
        called.computeIfAbsent(element, key -> new LinkedHashSet<>());
        if (tree.getParameters().size() > MOST_PARAMETERS) {
            breach(11, "too many parameters", tree);
        }
        long first = unit.getLineMap().getLineNumber(Math.max(0, positions.getStartPosition(unit, tree)));
        long last = unit.getLineMap().getLineNumber(Math.max(0, positions.getEndPosition(unit, tree)));
        if (last - first >= MOST_LINES) {
            breach(11, "a long method", tree);
        }
        if (Set.of("equals", "hashCode", "toString").contains(tree.getName().toString())
                || has(element, Modifier.SYNCHRONIZED) || has(element, Modifier.NATIVE)) {
            breach(6, "equals, hashCode, toString, synchronized or native", tree);
        }
        isKept(element.getReturnType(), tree);
        super.visitMethod(tree, none);
        within = outer;
        return null;
    }

    @Override
    public Void visitMethodInvocation(MethodInvocationTree tree, Void none) {
        Element element = element(tree.getMethodSelect());
        if (element instanceof ExecutableElement) {
            call((ExecutableElement) element, tree);
        }
        return super.visitMethodInvocation(tree, none);
    }

    private void call(ExecutableElement element, MethodInvocationTree tree) {
        Element holder = element.getEnclosingElement();
        if (isOwn(element)) {
            note(element);
            boolean isFixed = has(element, Modifier.PRIVATE) || has(element, Modifier.STATIC)
                || has(element, Modifier.FINAL) || has(holder, Modifier.FINAL);
            if (within != null && within.getKind() == ElementKind.CONSTRUCTOR && !isFixed) {
                breach(12, "a constructor calls " + element, tree);
            }
            return;
        }
        String name = element.getSimpleName().toString();
        String of = holder.getSimpleName().toString();
        if (of.equals("Object") && name.equals("<init>")) {
            return;
        }
        boolean isListed = LIBRARY.getOrDefault(of, Set.of()).contains(name);
        boolean isOfNumbers = NUMBERS.contains(of) && has(element, Modifier.STATIC) && !name.endsWith("Exact")
            && element.getParameters().stream().allMatch(each -> isWhole(each.asType()));
        if (!isListed && !isOfNumbers) {
            breach(4, of + "." + element + " is not of its library", tree);
        }
    }

    private static boolean isWhole(TypeMirror type) {
        return type.getKind() == TypeKind.INT || type.getKind() == TypeKind.LONG;
    }

    private void note(Element element) {
        if (within != null) {
            called.get(within).add(element);
        }
    }

    @Override
    public Void visitNewClass(NewClassTree tree, Void none) {
        Element made = element(tree.getIdentifier());
        boolean isThrown = getCurrentPath().getParentPath().getLeaf() instanceof ThrowTree;
        if (made != null && isOwn(made)) {
            note(element(tree));
        } else if (made != null && !MADE.contains(made.getSimpleName().toString()) && !isThrown) {
            breach(4, "new " + made + " is not of its library", tree);
        }
        return super.visitNewClass(tree, none);
    }

    /** No method comes back to itself, and no chain of calls is longer than the eighth. */
    private void callsEnd() {
        for (Element method : called.keySet()) {
            List<Element> chain = new ArrayList<>();
            if (follow(method, chain)) {
                return;
            }
        }
    }

    private boolean follow(Element method, List<Element> chain) {
        if (chain.contains(method)) {
            breaches.add("rule 8: " + method + " comes back to itself by " + chain);
            return true;
        }
        chain.add(method);
        boolean isFound = chain.size() > DEEPEST;
        if (isFound) {
            breaches.add("rule 11: calls go deeper than " + DEEPEST + ": " + chain);
        }
        for (Element next : called.getOrDefault(method, Set.of())) {
            isFound = isFound || follow(next, chain);
        }
        chain.remove(chain.size() - 1);
        return isFound;
    }

    // ---- what stands in methods

    @Override
    public Void visitThrow(ThrowTree tree, Void none) {
        boolean isFit = false;
        if (tree.getExpression() instanceof NewClassTree) {
            NewClassTree made = (NewClassTree) tree.getExpression();
            List<? extends ExpressionTree> words = made.getArguments();
            isFit = THROWN.contains(made.getIdentifier().toString())
                && (words.isEmpty() || words.size() == 1 && words.get(0).getKind() == Tree.Kind.STRING_LITERAL);
        }
        if (!isFit || within != null && within.getKind() == ElementKind.CONSTRUCTOR) {
            breach(6, "a throw that is not 'throw new E(\"words\")', or in a constructor", tree);
        }
        return super.visitThrow(tree, none);
    }

    @Override
    public Void visitTry(TryTree tree, Void none) {
        breach(6, "a try", tree);
        return super.visitTry(tree, none);
    }

    @Override
    public Void visitSynchronized(SynchronizedTree tree, Void none) {
        breach(6, "synchronized", tree);
        return super.visitSynchronized(tree, none);
    }

    @Override
    public Void visitAssert(AssertTree tree, Void none) {
        breach(6, "assert", tree);
        return super.visitAssert(tree, none);
    }

    @Override
    public Void visitLambdaExpression(LambdaExpressionTree tree, Void none) {
        breach(2, "a lambda", tree);
        return super.visitLambdaExpression(tree, none);
    }

    @Override
    public Void visitMemberReference(MemberReferenceTree tree, Void none) {
        breach(2, "a method reference", tree);
        return super.visitMemberReference(tree, none);
    }

    @Override
    public Void visitBinary(BinaryTree tree, Void none) {
        TypeMirror left = type(tree.getLeftOperand());
        TypeMirror right = type(tree.getRightOperand());
        boolean isText = isNamed(left, "String") || isNamed(right, "String");
        boolean isSame = tree.getKind() == Tree.Kind.EQUAL_TO || tree.getKind() == Tree.Kind.NOT_EQUAL_TO;
        if (tree.getKind() == Tree.Kind.PLUS && isText) {
            breach(10, "texts joined by +", tree);
        }
        if (isSame && (isText || isNamed(left, "Integer") && isNamed(right, "Integer"))) {
            breach(6, "== between texts or Integers", tree);
        }
        if (tree.getKind() == Tree.Kind.REMAINDER && (isBroken(left) || isBroken(right))) {
            breach(3, "% on a double", tree);
        }
        return super.visitBinary(tree, none);
    }

    private static boolean isBroken(TypeMirror type) {
        return type != null && (type.getKind() == TypeKind.DOUBLE || type.getKind() == TypeKind.FLOAT);
    }

    @Override
    public Void visitCompoundAssignment(CompoundAssignmentTree tree, Void none) {
        if (isNamed(type(tree.getVariable()), "String")) {
            breach(10, "texts joined by +=", tree);
        }
        return super.visitCompoundAssignment(tree, none);
    }

    @Override
    public Void visitLiteral(LiteralTree tree, Void none) {
        String words = tree.getValue() instanceof String || tree.getValue() instanceof Character
            ? tree.getValue().toString() : "";
        for (int i = 0; i < words.length(); i++) {
            if (words.charAt(i) < 1 || words.charAt(i) > 127) {
                breach(4, "a sign beyond 127", tree);
            }
        }
        return super.visitLiteral(tree, none);
    }

    @Override
    public Void visitForLoop(ForLoopTree tree, Void none) {
        if (tree.getCondition() == null) {
            breach(9, "a loop without an end", tree);
        }
        return super.visitForLoop(tree, none);
    }

    @Override
    public Void visitWhileLoop(WhileLoopTree tree, Void none) {
        endIsSeen(tree.getCondition());
        return super.visitWhileLoop(tree, none);
    }

    @Override
    public Void visitDoWhileLoop(DoWhileLoopTree tree, Void none) {
        endIsSeen(tree.getCondition());
        return super.visitDoWhileLoop(tree, none);
    }

    private void endIsSeen(ExpressionTree condition) {
        if (condition.toString().equals("(true)")) {
            breach(9, "a loop without an end", condition);
        }
    }
}
