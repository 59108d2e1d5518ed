import com.sun.source.tree.*;
import com.sun.source.util.TreePath;
import com.sun.source.util.TreePathScanner;
import com.sun.source.util.Trees;
import java.util.HashSet;
import java.util.Map;
import java.util.Set;
import javax.lang.model.element.Element;
import javax.lang.model.element.Modifier;
import javax.lang.model.element.TypeElement;
import javax.lang.model.type.ArrayType;
import javax.lang.model.type.TypeKind;
import javax.lang.model.type.TypeMirror;

/** Reads a compiled source's trees for what LANGUAGE.md leaves out, as far as its form shows it. */
final class LanguageRules extends TreePathScanner<Void, Void> {
    private static final int MOST_PARAMETERS = 7, MOST_LINES = 60, MOST_CLASSES = 12, MOST_FIELDS = 20;
    private static final Set<String> IMPORTS =
        Set.of("java.util.Arrays", "java.util.ArrayList", "java.util.List", "java.util.Iterator");
    private static final Set<String> OF_NUMBERS = Set.of("compare", "max", "min", "bitCount", "signum", "reverse",
        "highestOneBit", "lowestOneBit", "numberOfLeadingZeros", "numberOfTrailingZeros", "MAX_VALUE", "MIN_VALUE");
    /** By class, what may be used of it. */
    private static final Map<String, Set<String>> LIBRARY = Map.ofEntries(
        Map.entry("java.lang.Object", Set.of("<init>", "clone")),
        Map.entry("java.lang.Enum", Set.of("<init>", "ordinal")),
        Map.entry("java.lang.Record", Set.of("<init>")),
        Map.entry("java.lang.String", Set.of("<init>", "length", "charAt", "isEmpty", "equals", "indexOf", "substring",
            "toCharArray")),
        Map.entry("java.lang.StringBuilder", Set.of("<init>", "append", "charAt", "setCharAt", "setLength",
            "deleteCharAt", "reverse", "length", "toString")),
        Map.entry("java.util.ArrayList", Set.of("<init>", "add", "get", "set", "remove", "size", "isEmpty", "clear")),
        Map.entry("java.util.List", Set.of("add", "get", "set", "remove", "size", "isEmpty", "clear", "of")),
        Map.entry("java.util.Iterator", Set.of("hasNext", "next")),
        Map.entry("java.lang.Iterable", Set.of("iterator")),
        Map.entry("java.lang.Comparable", Set.of("compareTo")),
        Map.entry("java.lang.Integer", OF_NUMBERS),
        Map.entry("java.lang.Long", OF_NUMBERS),
        Map.entry("java.lang.Math", Set.of("abs", "max", "min", "floorDiv", "floorMod")),
        Map.entry("java.lang.System", Set.of("arraycopy")),
        Map.entry("java.util.Arrays", Set.of("copyOf", "copyOfRange", "fill")));
    private static final Set<TypeKind> STATIC_NUMBERS = Set.of(TypeKind.INT, TypeKind.LONG, TypeKind.BOOLEAN, TypeKind.CHAR);
    private static final Set<TypeKind> STATIC_ROWS = Set.of(TypeKind.INT, TypeKind.LONG, TypeKind.CHAR, TypeKind.BYTE);

    private final Trees trees;
    private final CompilationUnitTree unit;
    private final Set<String> faults;
    private final Set<String> publicNames = new HashSet<>();
    private int classes;

    LanguageRules(Trees trees, CompilationUnitTree unit, Set<String> faults) {
        this.trees = trees;
        this.unit = unit;
        this.faults = faults;
    }

    static void readImports(CompilationUnitTree unit, Set<String> faults) {
        for (ImportTree line : unit.getImports()) {
            if (line.isStatic() || !IMPORTS.contains(line.getQualifiedIdentifier().toString())) {
                faults.add("4: " + line);
            }
        }
        if (unit.getPackageName() != null) {
            faults.add("0: a package line");
        }
    }

    void readTop(Tree top) {
        for (Tree member : ((ClassTree) top).getMembers()) {
            Set<Modifier> flags = modifiersOf(member);
            boolean isOpen = !flags.contains(Modifier.PRIVATE) && !flags.contains(Modifier.PUBLIC);
            boolean isConstructor = member instanceof MethodTree made && made.getReturnType() == null;
            if (member instanceof MethodTree method && flags.contains(Modifier.PUBLIC) && !isConstructor) {
                publicNames.add(method.getName().toString());
            }
            if (isOpen && (member instanceof MethodTree || member instanceof VariableTree) && !isMade(member)) {
                fault("1", member, "neither private nor public");
            }
        }
        scan(new TreePath(new TreePath(unit), top), null);
        if (classes > MOST_CLASSES) {
            fault("11", top, classes + " classes");
        }
    }

    private void fault(String rule, Tree tree, String what) {
        long place = trees.getSourcePositions().getStartPosition(unit, tree);
        faults.add(rule + ": line " + unit.getLineMap().getLineNumber(Math.max(0, place)) + ", " + what);
    }

    private static Set<Modifier> modifiersOf(Tree member) {
        return member instanceof MethodTree method ? method.getModifiers().getFlags()
            : member instanceof VariableTree field ? field.getModifiers().getFlags()
            : member instanceof ClassTree type ? type.getModifiers().getFlags() : Set.of();
    }

    /** The constructor that the compiler adds has no place of its own. */
    private boolean isMade(Tree member) {
        return trees.getSourcePositions().getEndPosition(unit, member) < 0;
    }

    private TypeMirror typeOf(Tree tree) {
        return trees.getTypeMirror(new TreePath(getCurrentPath(), tree));
    }

    private boolean isText(Tree tree) {
        TypeMirror type = typeOf(tree);
        return type != null && type.toString().equals("java.lang.String");
    }

    private boolean isBox(Tree tree) {
        TypeMirror type = typeOf(tree);
        return type != null && type.toString().equals("java.lang.Integer");
    }

    // ---- classes, fields, methods

    @Override
    public Void visitClass(ClassTree type, Void none) {
        classes++;
        Tree around = getCurrentPath().getParentPath().getLeaf();
        if (around instanceof ClassTree) {
            boolean isPlain = type.getKind() == Tree.Kind.CLASS;
            if (isPlain && !modifiersOf(type).contains(Modifier.STATIC)) {
                fault("2", type, "a class inside that is not static");
            }
            if (modifiersOf(type).contains(Modifier.PUBLIC) || modifiersOf(type).contains(Modifier.PROTECTED)) {
                fault("1", type, "a class inside that is public or protected");
            }
        } else if (!(around instanceof CompilationUnitTree)) {
            fault("2", type, "a local or anonymous class");
        }
        long fields = type.getMembers().stream()
            .filter(member -> member instanceof VariableTree && !modifiersOf(member).contains(Modifier.STATIC)).count();
        if (fields > MOST_FIELDS) {
            fault("11", type, fields + " fields");
        }
        for (Tree member : type.getMembers()) {
            if (member instanceof BlockTree block && block.isStatic()) {
                fault("5", block, "a static initialiser block");
            }
            if (member instanceof VariableTree field && modifiersOf(field).contains(Modifier.STATIC)) {
                readStatic(field);
            }
        }
        return super.visitClass(type, none);
    }

    private void readStatic(VariableTree field) {
        TypeMirror type = trees.getTypeMirror(new TreePath(getCurrentPath(), field));
        boolean isRow = type instanceof ArrayType row && STATIC_ROWS.contains(row.getComponentType().getKind());
        // A row must be written out: one made by its length would have to be changed to be of use.
        boolean isWritten = field.getInitializer() instanceof NewArrayTree made && made.getInitializers() != null;
        boolean isConstant = STATIC_NUMBERS.contains(type.getKind()) || type.toString().equals("java.lang.String");
        boolean isEnumConstant = trees.getElement(new TreePath(getCurrentPath(), field)).getKind().name().equals("ENUM_CONSTANT");
        if (!modifiersOf(field).contains(Modifier.FINAL) || !(isConstant || isEnumConstant || isRow && isWritten)) {
            fault("5", field, "static state: " + field.getName());
        }
    }

    @Override
    public Void visitMethod(MethodTree method, Void none) {
        Set<Modifier> flags = method.getModifiers().getFlags();
        if (!flags.contains(Modifier.PUBLIC) && publicNames.contains(method.getName().toString())) {
            fault("1", method, "bears the name of a public method: " + method.getName());
        }
        if (flags.contains(Modifier.SYNCHRONIZED)) {
            fault("6", method, "synchronized");
        }
        if (Set.of("equals", "hashCode", "toString").contains(method.getName().toString())) {
            fault("6", method, method.getName() + " of an own class");
        }
        if (method.getParameters().size() > MOST_PARAMETERS) {
            fault("11", method, method.getParameters().size() + " parameters");
        }
        LineMap lines = unit.getLineMap();
        long end = trees.getSourcePositions().getEndPosition(unit, method);
        if (end >= 0 && lines.getLineNumber(end)
                - lines.getLineNumber(trees.getSourcePositions().getStartPosition(unit, method)) >= MOST_LINES) {
            fault("11", method, "a long method: " + method.getName());
        }
        return super.visitMethod(method, none);
    }

    @Override
    public Void visitVariable(VariableTree variable, Void none) {
        TypeMirror type = trees.getTypeMirror(getCurrentPath());
        int dimensions = 0;
        while (type instanceof ArrayType row && dimensions < 9) {
            dimensions++;
            type = row.getComponentType();
        }
        if (dimensions > 2 || dimensions == 2 && !isNumber(type)) {
            fault("3", variable, "an array of " + dimensions + " dimensions");
        }
        return super.visitVariable(variable, none);
    }

    // ---- statements

    @Override
    public Void visitThrow(ThrowTree tree, Void none) {
        fault("6", tree, "throw");
        return super.visitThrow(tree, none);
    }

    @Override
    public Void visitTry(TryTree tree, Void none) {
        fault("6", tree, "try");
        return super.visitTry(tree, none);
    }

    @Override
    public Void visitSynchronized(SynchronizedTree tree, Void none) {
        fault("6", tree, "synchronized");
        return super.visitSynchronized(tree, none);
    }

    @Override
    public Void visitAssert(AssertTree tree, Void none) {
        fault("6", tree, "assert");
        return super.visitAssert(tree, none);
    }

    @Override
    public Void visitWhileLoop(WhileLoopTree tree, Void none) {
        readLoop(tree, tree.getCondition());
        return super.visitWhileLoop(tree, none);
    }

    @Override
    public Void visitDoWhileLoop(DoWhileLoopTree tree, Void none) {
        readLoop(tree, tree.getCondition());
        return super.visitDoWhileLoop(tree, none);
    }

    @Override
    public Void visitForLoop(ForLoopTree tree, Void none) {
        readLoop(tree, tree.getCondition());
        return super.visitForLoop(tree, none);
    }

    private void readLoop(Tree loop, ExpressionTree condition) {
        if (condition == null || plain(condition) instanceof LiteralTree) {
            fault("9", loop, "a loop without an end of its own");
        }
    }

    private static ExpressionTree plain(ExpressionTree tree) {
        return tree instanceof ParenthesizedTree inside ? plain(inside.getExpression()) : tree;
    }

    // ---- expressions

    @Override
    public Void visitLambdaExpression(LambdaExpressionTree tree, Void none) {
        fault("2", tree, "a lambda");
        return super.visitLambdaExpression(tree, none);
    }

    @Override
    public Void visitMemberReference(MemberReferenceTree tree, Void none) {
        fault("2", tree, "a method reference");
        return super.visitMemberReference(tree, none);
    }

    @Override
    public Void visitBinary(BinaryTree tree, Void none) {
        ExpressionTree left = tree.getLeftOperand();
        ExpressionTree right = tree.getRightOperand();
        switch (tree.getKind()) {
            case PLUS:
                if (isText(left) || isText(right)) {
                    fault("10", tree, "texts joined by +");
                }
                break;
            case EQUAL_TO:
            case NOT_EQUAL_TO:
                if (isText(left) && isText(right) || isBox(left) && isBox(right)) {
                    fault("6", tree, "== between texts or Integers");
                }
                break;
            case DIVIDE:
            case REMAINDER:
                readDivisor(tree, right);
                break;
            default:
        }
        return super.visitBinary(tree, none);
    }

    @Override
    public Void visitCompoundAssignment(CompoundAssignmentTree tree, Void none) {
        if (tree.getKind() == Tree.Kind.PLUS_ASSIGNMENT && isText(tree.getVariable())) {
            fault("10", tree, "texts joined by +=");
        }
        if (tree.getKind() == Tree.Kind.DIVIDE_ASSIGNMENT || tree.getKind() == Tree.Kind.REMAINDER_ASSIGNMENT) {
            readDivisor(tree, tree.getExpression());
        }
        return super.visitCompoundAssignment(tree, none);
    }

    /** A divisor is a constant other than 0, or a condition around it names and compares it. */
    private void readDivisor(Tree division, ExpressionTree divisor) {
        Element named = trees.getElement(new TreePath(getCurrentPath(), divisor));
        Object value = divisor instanceof LiteralTree literal ? literal.getValue()
            : named instanceof javax.lang.model.element.VariableElement constant ? constant.getConstantValue() : null;
        if (value instanceof Number number && number.longValue() != 0) {
            return;
        }
        for (TreePath path = getCurrentPath(); path != null; path = path.getParentPath()) {
            Tree around = path.getLeaf();
            ExpressionTree asked = around instanceof ConditionalExpressionTree choice ? choice.getCondition()
                : around instanceof IfTree choice ? choice.getCondition()
                : around instanceof ForLoopTree loop ? loop.getCondition()
                : around instanceof WhileLoopTree loop ? loop.getCondition() : null;
            if (value == null && asked != null && asked.toString().matches(".*\\b" + divisor + " (!=|>) 0.*")) {
                return;
            }
        }
        fault("7", division, "a divisor that is not looked at: " + divisor);
    }

    @Override
    public Void visitLiteral(LiteralTree tree, Void none) {
        if (tree.getValue() instanceof String text && !text.chars().allMatch(sign -> sign >= 1 && sign <= 127)) {
            fault("4", tree, "a sign outside 1 to 127");
        }
        return super.visitLiteral(tree, none);
    }

    // ---- the library

    @Override
    public Void visitIdentifier(IdentifierTree tree, Void none) {
        readElement(tree);
        return super.visitIdentifier(tree, none);
    }

    @Override
    public Void visitMemberSelect(MemberSelectTree tree, Void none) {
        readElement(tree);
        return super.visitMemberSelect(tree, none);
    }

    @Override
    public Void visitNewClass(NewClassTree tree, Void none) {
        readElement(tree);
        return super.visitNewClass(tree, none);
    }

    @Override
    public Void visitMethodInvocation(MethodInvocationTree tree, Void none) {
        String name = tree.getMethodSelect().toString();
        if (name.startsWith("Arrays.") || name.equals("System.arraycopy")) {
            for (ExpressionTree argument : tree.getArguments()) {
                if (typeOf(argument) instanceof ArrayType row && !isNumber(row.getComponentType())) {
                    fault("4", tree, name + " over what is no array of numbers");
                }
            }
        }
        return super.visitMethodInvocation(tree, none);
    }

    private static boolean isNumber(TypeMirror type) {
        return type.getKind().isPrimitive() && type.getKind() != TypeKind.BOOLEAN;
    }

    private void readElement(Tree tree) {
        Element element = trees.getElement(getCurrentPath());
        if (element instanceof TypeElement type) {
            String name = type.getQualifiedName().toString();
            if (name.startsWith("java") && !LIBRARY.containsKey(name) && !name.equals("java.lang.Override")) {
                fault("4", tree, name);
            }
        } else if (element != null && element.getEnclosingElement() instanceof TypeElement owner) {
            String name = element.getSimpleName().toString();
            if (owner.getQualifiedName().toString().startsWith("java") && !isListed(owner, name)) {
                fault("4", tree, owner.getQualifiedName() + "." + name);
            }
        }
    }

    private static boolean isListed(TypeElement owner, String name) {
        return LIBRARY.getOrDefault(owner.getQualifiedName().toString(), Set.of()).contains(name);
    }
}
