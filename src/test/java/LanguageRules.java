import com.sun.source.tree.AssertTree;
import com.sun.source.tree.BinaryTree;
import com.sun.source.tree.BlockTree;
import com.sun.source.tree.CatchTree;
import com.sun.source.tree.ClassTree;
import com.sun.source.tree.CompilationUnitTree;
import com.sun.source.tree.CompoundAssignmentTree;
import com.sun.source.tree.DoWhileLoopTree;
import com.sun.source.tree.EnhancedForLoopTree;
import com.sun.source.tree.ExpressionTree;
import com.sun.source.tree.ForLoopTree;
import com.sun.source.tree.IdentifierTree;
import com.sun.source.tree.ImportTree;
import com.sun.source.tree.LambdaExpressionTree;
import com.sun.source.tree.LiteralTree;
import com.sun.source.tree.MemberReferenceTree;
import com.sun.source.tree.MemberSelectTree;
import com.sun.source.tree.MethodInvocationTree;
import com.sun.source.tree.MethodTree;
import com.sun.source.tree.NewArrayTree;
import com.sun.source.tree.NewClassTree;
import com.sun.source.tree.SynchronizedTree;
import com.sun.source.tree.ThrowTree;
import com.sun.source.tree.Tree;
import com.sun.source.tree.TryTree;
import com.sun.source.tree.TypeCastTree;
import com.sun.source.tree.VariableTree;
import com.sun.source.tree.WhileLoopTree;
import com.sun.source.util.TreePath;
import com.sun.source.util.TreePathScanner;
import com.sun.source.util.Trees;
import java.util.ArrayList;
import java.util.LinkedHashMap;
import java.util.LinkedHashSet;
import java.util.List;
import java.util.Map;
import java.util.Set;
import javax.lang.model.element.Element;
import javax.lang.model.element.ElementKind;
import javax.lang.model.element.ExecutableElement;
import javax.lang.model.element.Modifier;
import javax.lang.model.element.TypeElement;
import javax.lang.model.element.VariableElement;
import javax.lang.model.type.ArrayType;
import javax.lang.model.type.DeclaredType;
import javax.lang.model.type.TypeKind;
import javax.lang.model.type.TypeMirror;

/**
 * Goes through the program and notes what offends against a rule of LANGUAGE.md. Where a rule lets
 * something stand behind a condition that cannot be seen easily (a cast of an own class, a
 * recursion), it is noted all the same: the program needs none.
 */
final class LanguageRules extends TreePathScanner<Void, Void> {
    private static final String FACE = "CaptionAlbum";
    private static final Set<String> IMPORTS = Set.of("java.util.ArrayList", "java.util.List",
            "java.util.Arrays", "java.util.Iterator", "java.util.NoSuchElementException");
    private static final Set<String> EXCEPTIONS = Set.of("IllegalStateException",
            "IllegalArgumentException", "IndexOutOfBoundsException", "ArithmeticException",
            "UnsupportedOperationException", "NoSuchElementException", "RuntimeException");
    private static final Set<String> TYPES = Set.of("String", "StringBuilder", "Integer",
            "ArrayList", "List", "Iterator", "Iterable", "Comparable");
    private static final Map<String, Set<String>> LIBRARY = Map.of(
            "String", Set.of("length()", "charAt(int)", "isEmpty()", "equals(java.lang.Object)",
                    "indexOf(int)", "substring(int)", "substring(int,int)", "toCharArray()",
                    "String(char[])"),
            "StringBuilder", Set.of("StringBuilder()", "append(char)", "append(java.lang.String)",
                    "append(int)", "charAt(int)", "setCharAt(int,char)", "setLength(int)",
                    "deleteCharAt(int)", "reverse()", "length()", "toString()"),
            "AbstractStringBuilder", Set.of("length()", "charAt(int)", "setLength(int)",
                    "setCharAt(int,char)"),
            "System", Set.of("arraycopy(java.lang.Object,int,java.lang.Object,int,int)"),
            "ArrayList", Set.of("ArrayList()", "add(E)", "add(int,E)", "get(int)", "set(int,E)",
                    "remove(int)", "size()", "isEmpty()", "clear()"),
            "List", Set.of("add(E)", "add(int,E)", "get(int)", "set(int,E)", "remove(int)",
                    "size()", "isEmpty()", "clear()"));
    private static final Set<String> NUMBER_FUNCTIONS = Set.of("Math", "Integer", "Long");
    private static final int MOST_PARAMETERS = 7;
    private static final int MOST_LINES = 60;
    private static final int MOST_FIELDS = 20;

    private final CompilationUnitTree unit;
    private final Trees trees;
    private final List<String> offences = new ArrayList<>();
    private final Map<String, Set<String>> calls = new LinkedHashMap<>();
    private final List<ExecutableElement> found = new ArrayList<>();
    private int classes = 0;
    private int loops = 0;
    private String caller = "";

    LanguageRules(CompilationUnitTree unit, Trees trees) {
        this.unit = unit;
        this.trees = trees;
    }

    int methods() {
        return found.size();
    }

    int classes() {
        return classes;
    }

    List<String> offences() {
        checkPrivateNames();
        return offences;
    }

    private void check(boolean holds, int rule, String what, Tree at) {
        if (!holds) {
            long place = trees.getSourcePositions().getStartPosition(unit, at);
            long line = unit.getLineMap().getLineNumber(place);
            offences.add("rule " + rule + ", line " + line + ": " + what);
        }
    }

    private void refuse(int rule, String what, Tree at) {
        check(false, rule, what, at);
    }

    // ---- classes, methods and fields

    @Override
    public Void visitImport(ImportTree node, Void nothing) {
        String name = node.getQualifiedIdentifier().toString();
        check(IMPORTS.contains(name) && !node.isStatic(), 4, "import " + name, node);
        return null;
    }

    @Override
    public Void visitClass(ClassTree node, Void nothing) {
        classes++;
        TypeElement type = (TypeElement) elementHere();
        boolean inside = type.getEnclosingElement().getKind().isClass();
        boolean outermost = type.getEnclosingElement().getKind() == ElementKind.PACKAGE;
        check(inside || outermost, 2, "local or anonymous class", node);
        check(outermost || type.getModifiers().contains(Modifier.STATIC), 1,
                "class inside that is not static", node);
        check(isObject(type.getSuperclass()) || isOwn(type.getSuperclass())
                || type.getKind() != ElementKind.CLASS, 4, "superclass of the library", node);
        long fields = type.getEnclosedElements().stream()
                .filter(e -> e.getKind() == ElementKind.FIELD
                        && !e.getModifiers().contains(Modifier.STATIC)).count();
        check(fields <= MOST_FIELDS, 11, fields + " fields in " + type, node);
        return super.visitClass(node, nothing);
    }

    @Override
    public Void visitMethod(MethodTree node, Void nothing) {
        ExecutableElement method = (ExecutableElement) elementHere();
        if (trees.getTree(method) == null) {
            return null;
        }
        found.add(method);
        String name = node.getName().toString();
        check(!Set.of("equals", "hashCode", "toString", "finalize").contains(name), 6, name, node);
        check(node.getParameters().size() <= MOST_PARAMETERS, 11, name + "'s parameters", node);
        check(linesOf(node) <= MOST_LINES, 11, name + "'s lines", node);
        check(!method.getModifiers().contains(Modifier.SYNCHRONIZED)
                && !method.getModifiers().contains(Modifier.NATIVE), 6, name, node);
        checkType(method.getReturnType(), node);
        String before = caller;
        caller = nameOf(method);
        calls.computeIfAbsent(caller, c -> new LinkedHashSet<>());
        super.visitMethod(node, nothing);
        caller = before;
        return null;
    }

    private long linesOf(Tree node) {
        long start = trees.getSourcePositions().getStartPosition(unit, node);
        long end = trees.getSourcePositions().getEndPosition(unit, node);
        return unit.getLineMap().getLineNumber(end) - unit.getLineMap().getLineNumber(start) + 1;
    }

    @Override
    public Void visitVariable(VariableTree node, Void nothing) {
        VariableElement variable = (VariableElement) elementHere();
        TypeMirror type = variable.asType();
        boolean caught = variable.getKind() == ElementKind.EXCEPTION_PARAMETER;
        if (!caught) {
            checkType(type, node);
        }
        if (variable.getModifiers().contains(Modifier.STATIC)) {
            check(variable.getModifiers().contains(Modifier.FINAL), 5, "static field", node);
            check(isStaticType(variable), 5, "type of a static field", node);
            boolean written = type.getKind() != TypeKind.ARRAY
                    || node.getInitializer() instanceof NewArrayTree
                    && ((NewArrayTree) node.getInitializer()).getInitializers() != null;
            check(written, 5, "static array that is not written out", node);
        }
        return super.visitVariable(node, nothing);
    }

    private boolean isStaticType(VariableElement variable) {
        TypeMirror type = variable.asType();
        if (type.getKind() == TypeKind.ARRAY) {
            return Set.of("int[]", "long[]", "char[]", "byte[]").contains(type.toString());
        }
        return variable.getKind() == ElementKind.ENUM_CONSTANT
                || Set.of("int", "long", "boolean", "char", "java.lang.String")
                        .contains(type.toString());
    }

    @Override
    public Void visitBlock(BlockTree node, Void nothing) {
        check(!node.isStatic(), 5, "static initialiser block", node);
        return super.visitBlock(node, nothing);
    }

    private void checkPrivateNames() {
        for (ExecutableElement method : found) {
            boolean hidden = method.getModifiers().contains(Modifier.PRIVATE);
            for (ExecutableElement other : found) {
                boolean seen = other.getModifiers().contains(Modifier.PUBLIC);
                boolean alike = method.getSimpleName().equals(other.getSimpleName());
                if (hidden && seen && alike && method.getKind() == ElementKind.METHOD) {
                    refuse(1, "private method " + method + " with a public one's name",
                            trees.getTree(method));
                }
            }
        }
    }

    // ---- types

    private void checkType(TypeMirror type, Tree at) {
        check(isAllowed(type, 0), 3, "type " + type, at);
    }

    private boolean isAllowed(TypeMirror type, int dimensions) {
        if (type.getKind() == TypeKind.ARRAY) {
            return dimensions < 2
                    && isAllowed(((ArrayType) type).getComponentType(), dimensions + 1);
        }
        if (type.getKind().isPrimitive()) {
            return true;
        }
        if (type.getKind() == TypeKind.VOID || type.getKind() == TypeKind.TYPEVAR) {
            return dimensions == 0;
        }
        return dimensions < 2 && (isOwn(type) || dimensions == 0 && TYPES.contains(simple(type))
                || type.toString().equals("java.lang.String"));
    }

    private static boolean isObject(TypeMirror type) {
        return type.toString().equals("java.lang.Object");
    }

    private static boolean isOwn(TypeMirror type) {
        return type.toString().equals(FACE) || type.toString().startsWith(FACE + ".");
    }

    private static boolean isOwn(Element element) {
        return element.getKind() == ElementKind.PACKAGE ? false
                : element.getEnclosingElement().getKind() == ElementKind.PACKAGE
                        ? element.getSimpleName().contentEquals(FACE)
                        : isOwn(element.getEnclosingElement());
    }

    private static String simple(TypeMirror type) {
        return type instanceof DeclaredType
                ? ((DeclaredType) type).asElement().getSimpleName().toString() : type.toString();
    }

    private TypeMirror typeOf(Tree tree) {
        return trees.getTypeMirror(new TreePath(getCurrentPath(), tree));
    }

    private Element elementHere() {
        return trees.getElement(getCurrentPath());
    }

    // ---- what is called and made

    @Override
    public Void visitMethodInvocation(MethodInvocationTree node, Void nothing) {
        ExecutableElement called = (ExecutableElement) elementHere();
        Element owner = called.getEnclosingElement();
        if (isOwn(called)) {
            noteCall(called);
        } else if (called.getKind() != ElementKind.CONSTRUCTOR) {
            check(isInLibrary(called, owner.getSimpleName().toString()), 4,
                    "call of " + owner + "." + called, node);
        }
        return super.visitMethodInvocation(node, nothing);
    }

    private static boolean isInLibrary(ExecutableElement called, String owner) {
        String name = called.getSimpleName().toString();
        if (owner.equals("Array")) {
            return name.equals("clone");
        }
        if (NUMBER_FUNCTIONS.contains(owner)) {
            return called.getModifiers().contains(Modifier.STATIC) && !name.endsWith("Exact")
                    && called.getParameters().stream()
                            .allMatch(p -> p.asType().getKind() == TypeKind.INT
                                    || p.asType().getKind() == TypeKind.LONG);
        }
        if (owner.equals("Arrays")) {
            return Set.of("copyOf", "copyOfRange", "fill").contains(name)
                    && !called.toString().contains("Object") && !called.toString().contains("T");
        }
        if (owner.equals("List") && name.equals("of")) {
            return called.getParameters().size() <= 6 && !called.isVarArgs();
        }
        return LIBRARY.getOrDefault(owner, Set.of()).contains(called.toString());
    }

    private void noteCall(ExecutableElement called) {
        if (!caller.isEmpty()) {
            calls.get(caller).add(nameOf(called));
        }
    }

    private static String nameOf(ExecutableElement method) {
        return method.getEnclosingElement().getSimpleName() + "." + method;
    }

    @Override
    public Void visitNewClass(NewClassTree node, Void nothing) {
        ExecutableElement made = (ExecutableElement) elementHere();
        Element type = made.getEnclosingElement();
        String name = type.getSimpleName().toString();
        checkMakingInLoop(node);
        if (isOwn(made)) {
            noteCall(made);
        } else if (EXCEPTIONS.contains(name)) {
            check(getCurrentPath().getParentPath().getLeaf() instanceof ThrowTree, 6,
                    "exception that is not thrown", node);
        } else {
            check(LIBRARY.getOrDefault(name, Set.of()).contains(made.toString()), 4,
                    "new " + made, node);
        }
        return super.visitNewClass(node, nothing);
    }

    @Override
    public Void visitNewArray(NewArrayTree node, Void nothing) {
        checkMakingInLoop(node);
        checkType(typeHere(), node);
        return super.visitNewArray(node, nothing);
    }

    private TypeMirror typeHere() {
        return trees.getTypeMirror(getCurrentPath());
    }

    /** Only constructors make rows of objects; an exception in a loop ends it. */
    private void checkMakingInLoop(Tree node) {
        boolean thrown = getCurrentPath().getParentPath().getLeaf() instanceof ThrowTree;
        check(loops == 0 || thrown || isInConstructor(), 12, "object made in a loop", node);
    }

    private MethodTree methodAround() {
        for (TreePath path = getCurrentPath(); path != null; path = path.getParentPath()) {
            if (path.getLeaf() instanceof MethodTree) {
                return (MethodTree) path.getLeaf();
            }
        }
        return null;
    }

    private boolean isInConstructor() {
        MethodTree around = methodAround();
        return around == null || around.getReturnType() == null;
    }

    @Override
    public Void visitIdentifier(IdentifierTree node, Void nothing) {
        checkField(elementHere(), node);
        return super.visitIdentifier(node, nothing);
    }

    @Override
    public Void visitMemberSelect(MemberSelectTree node, Void nothing) {
        checkField(elementHere(), node);
        return super.visitMemberSelect(node, nothing);
    }

    private void checkField(Element used, Tree node) {
        if (used != null && used.getKind() == ElementKind.FIELD && !isOwnOrLength(used)) {
            refuse(4, "field " + used + " of the library", node);
        }
    }

    private static boolean isOwnOrLength(Element field) {
        boolean plain = Set.of("length", "this", "super").contains(field.toString());
        return plain || isOwn(field);
    }

    // ---- statements and expressions

    @Override
    public Void visitLambdaExpression(LambdaExpressionTree node, Void nothing) {
        refuse(2, "lambda", node);
        return null;
    }

    @Override
    public Void visitMemberReference(MemberReferenceTree node, Void nothing) {
        refuse(2, "method reference", node);
        return null;
    }

    @Override
    public Void visitThrow(ThrowTree node, Void nothing) {
        ExpressionTree thrown = node.getExpression();
        boolean plain = thrown instanceof NewClassTree && isPlain((NewClassTree) thrown);
        check(plain, 6, "throw of " + thrown, node);
        check(!isInConstructor(), 6, "throw in a constructor", node);
        check(!hasTry(methodAround()), 6, "throw in a method with a try", node);
        return super.visitThrow(node, nothing);
    }

    private boolean isPlain(NewClassTree made) {
        List<? extends ExpressionTree> arguments = made.getArguments();
        return EXCEPTIONS.contains(made.getIdentifier().toString())
                && (arguments.isEmpty() || arguments.size() == 1
                        && arguments.get(0).getKind() == Tree.Kind.STRING_LITERAL);
    }

    private static boolean hasTry(MethodTree method) {
        Boolean found = new com.sun.source.util.TreeScanner<Boolean, Void>() {
            @Override
            public Boolean visitTry(TryTree node, Void nothing) {
                return true;
            }

            @Override
            public Boolean reduce(Boolean one, Boolean two) {
                return one != null && one || two != null && two;
            }
        }.scan(method, null);
        return found != null && found;
    }

    @Override
    public Void visitTry(TryTree node, Void nothing) {
        check(node.getFinallyBlock() == null, 6, "finally", node);
        check(node.getResources().isEmpty(), 6, "try with resources", node);
        return super.visitTry(node, nothing);
    }

    @Override
    public Void visitCatch(CatchTree node, Void nothing) {
        String caught = node.getParameter().getType().toString();
        check(EXCEPTIONS.contains(caught), 6, "catch of " + caught, node);
        return super.visitCatch(node, nothing);
    }

    @Override
    public Void visitSynchronized(SynchronizedTree node, Void nothing) {
        refuse(6, "synchronized", node);
        return null;
    }

    @Override
    public Void visitAssert(AssertTree node, Void nothing) {
        refuse(6, "assert", node);
        return null;
    }

    @Override
    public Void visitTypeCast(TypeCastTree node, Void nothing) {
        check(typeHere().getKind().isPrimitive(), 6, "cast to " + node.getType(), node);
        return super.visitTypeCast(node, nothing);
    }

    @Override
    public Void visitLiteral(LiteralTree node, Void nothing) {
        if (node.getKind() == Tree.Kind.STRING_LITERAL) {
            String text = (String) node.getValue();
            check(text.chars().allMatch(c -> c >= 1 && c <= 127), 4, "text " + text, node);
        }
        if (node.getKind() == Tree.Kind.CHAR_LITERAL) {
            check((Character) node.getValue() <= 255, 3, "character", node);
        }
        return super.visitLiteral(node, nothing);
    }

    @Override
    public Void visitBinary(BinaryTree node, Void nothing) {
        TypeMirror left = typeOf(node.getLeftOperand());
        TypeMirror right = typeOf(node.getRightOperand());
        boolean texts = isText(left) || isText(right);
        switch (node.getKind()) {
            case PLUS:
                check(!texts, 10, "texts joined by +", node);
                break;
            case EQUAL_TO:
            case NOT_EQUAL_TO:
                check(!texts && !simple(left).equals("Integer"), 6, "texts or Integers by ==", node);
                break;
            case REMAINDER:
                check(!isFraction(left) && !isFraction(right), 3, "% of fractions", node);
                break;
            default:
                break;
        }
        return super.visitBinary(node, nothing);
    }

    @Override
    public Void visitCompoundAssignment(CompoundAssignmentTree node, Void nothing) {
        check(!isText(typeOf(node.getVariable())), 10, "texts joined by +=", node);
        return super.visitCompoundAssignment(node, nothing);
    }

    private static boolean isText(TypeMirror type) {
        return simple(type).equals("String");
    }

    private static boolean isFraction(TypeMirror type) {
        return type.getKind() == TypeKind.FLOAT || type.getKind() == TypeKind.DOUBLE;
    }

    // ---- loops

    @Override
    public Void visitForLoop(ForLoopTree node, Void nothing) {
        checkCondition(node.getCondition(), node);
        loops++;
        super.visitForLoop(node, nothing);
        loops--;
        return null;
    }

    @Override
    public Void visitWhileLoop(WhileLoopTree node, Void nothing) {
        checkCondition(node.getCondition(), node);
        loops++;
        super.visitWhileLoop(node, nothing);
        loops--;
        return null;
    }

    @Override
    public Void visitDoWhileLoop(DoWhileLoopTree node, Void nothing) {
        checkCondition(node.getCondition(), node);
        loops++;
        super.visitDoWhileLoop(node, nothing);
        loops--;
        return null;
    }

    @Override
    public Void visitEnhancedForLoop(EnhancedForLoopTree node, Void nothing) {
        loops++;
        super.visitEnhancedForLoop(node, nothing);
        loops--;
        return null;
    }

    private void checkCondition(ExpressionTree condition, Tree loop) {
        boolean endless = condition == null || condition.toString().matches("\\(*true\\)*");
        check(!endless, 9, "loop without a condition", loop);
    }

    // ---- the depth of calls

    /** The longest chain of calls of methods of the program; a recursion is an offence. */
    List<String> deepestCalls() {
        List<String> deepest = List.of();
        for (String method : calls.keySet()) {
            List<String> chain = chainFrom(method, new ArrayList<>());
            deepest = chain.size() > deepest.size() ? chain : deepest;
        }
        return deepest;
    }

    private List<String> chainFrom(String method, List<String> open) {
        if (open.contains(method)) {
            Due.fault("rule 8: " + method + " calls itself by " + open);
            return List.of();
        }
        open.add(method);
        List<String> deepest = List.of();
        for (String called : calls.getOrDefault(method, Set.of())) {
            List<String> chain = chainFrom(called, open);
            deepest = chain.size() > deepest.size() ? chain : deepest;
        }
        open.remove(method);
        List<String> chain = new ArrayList<>(List.of(method));
        chain.addAll(deepest);
        return chain;
    }
}
