import com.sun.source.tree.*;
import com.sun.source.util.JavacTask;
import com.sun.source.util.TreePath;
import com.sun.source.util.TreePathScanner;
import com.sun.source.util.Trees;
import java.io.IOException;
import java.nio.charset.StandardCharsets;
import java.nio.file.Path;
import java.util.EnumSet;
import java.util.HashMap;
import java.util.LinkedHashMap;
import java.util.LinkedHashSet;
import java.util.List;
import java.util.Map;
import java.util.Set;
import javax.lang.model.element.Element;
import javax.lang.model.element.ElementKind;
import javax.lang.model.element.Modifier;
import javax.lang.model.type.ArrayType;
import javax.lang.model.type.TypeKind;
import javax.lang.model.type.TypeMirror;
import javax.tools.JavaCompiler;
import javax.tools.StandardJavaFileManager;
import javax.tools.ToolProvider;

/**
 * The rules of LANGUAGE.md (their numbers stand in what is printed) and of the project's page, looked for in the source
 * as the compiler itself has read it. Where the program does with less than a rule leaves, the test asks for the less:
 * it throws nothing, catches nothing, and makes no object behind its constructors.
 */
public final class LanguageTests extends TreePathScanner<Void, Void> {
    private static final String SOURCE = "src/main/java/MotionStates.java";
    /** Rule 11 leaves eight; one is left over for a reader who counts the caller's own method, too. */
    private static final int MOST_DEEP = 7;
    private static final int MOST_LINES = 60, MOST_PARAMETERS = 7, MOST_CLASSES = 12, MOST_FIELDS = 20;
    private static final Set<String> LIBRARY = Set.of("java.lang.Object.<init>", "java.lang.String.length",
        "java.lang.String.charAt", "java.lang.System.arraycopy", "java.util.Arrays.fill", "java.lang.Math.min");
    private static final Set<Tree.Kind> RULED_OUT = EnumSet.of(Tree.Kind.TRY, Tree.Kind.CATCH, Tree.Kind.THROW,
        Tree.Kind.LAMBDA_EXPRESSION, Tree.Kind.MEMBER_REFERENCE, Tree.Kind.SYNCHRONIZED, Tree.Kind.ASSERT, Tree.Kind.ANNOTATION,
        Tree.Kind.INSTANCE_OF, Tree.Kind.SWITCH_EXPRESSION, Tree.Kind.PACKAGE, Tree.Kind.NULL_LITERAL);
    private static final Set<Tree.Kind> ON_FLOATS = EnumSet.of(Tree.Kind.PLUS, Tree.Kind.MINUS, Tree.Kind.MULTIPLY,
        Tree.Kind.DIVIDE, Tree.Kind.LESS_THAN, Tree.Kind.LESS_THAN_EQUAL, Tree.Kind.GREATER_THAN, Tree.Kind.GREATER_THAN_EQUAL,
        Tree.Kind.EQUAL_TO, Tree.Kind.NOT_EQUAL_TO);

    private final Trees trees;
    private final CompilationUnitTree unit;
    private final Set<String> publicNames = new LinkedHashSet<>();
    private final Map<Element, Set<Element>> calls = new LinkedHashMap<>();
    private final Map<Element, Integer> depths = new HashMap<>();
    private int classes = 0;

    private LanguageTests(Trees trees, CompilationUnitTree unit) {
        this.trees = trees;
        this.unit = unit;
    }

    public static void main(String[] args) throws IOException {
        JavaCompiler javac = ToolProvider.getSystemJavaCompiler();
        try (StandardJavaFileManager files = javac.getStandardFileManager(null, null, StandardCharsets.US_ASCII)) {
            JavacTask task = (JavacTask) javac.getTask(null, files, null, List.of("-proc:none", "-Xlint:all"), null,
                files.getJavaFileObjects(Path.of(args.length > 0 ? args[0] : SOURCE)));
            CompilationUnitTree unit = task.parse().iterator().next();
            task.analyze();
            new LanguageTests(Trees.instance(task), unit).look();
        }
        Check.finish();
    }

    private void look() {
        for (Tree type : unit.getTypeDecls()) {
            for (Element member : elementOf(new TreePath(new TreePath(unit), type)).getEnclosedElements()) {
                if (member.getKind() == ElementKind.METHOD && member.getModifiers().contains(Modifier.PUBLIC)) {
                    publicNames.add(member.getSimpleName().toString());
                }
            }
        }
        rule(1, "one class in the file", unit.getTypeDecls().size() == 1, unit);
        scan(unit, null);
        rule(11, "classes: " + classes, classes <= MOST_CLASSES, unit);
        rule(1, "public methods: " + publicNames.size(), publicNames.size() == 30, unit);
        for (Element method : calls.keySet()) {
            int depth = depthOf(method, new LinkedHashSet<>());
            rule(11, method + " goes " + depth + " deep", depth <= MOST_DEEP, unit);
        }
    }

    private void rule(int number, String what, boolean holds, Tree where) {
        long line = unit.getLineMap().getLineNumber(Math.max(0, start(where)));
        Check.holds("rule " + number + ", line " + line + ": " + what, holds);
    }

    private long start(Tree tree) {
        return trees.getSourcePositions().getStartPosition(unit, tree);
    }

    private Element elementOf(TreePath path) {
        return trees.getElement(path);
    }

    private TypeMirror typeOf(Tree tree) {
        return trees.getTypeMirror(new TreePath(getCurrentPath(), tree));
    }

    private static boolean isFloating(TypeMirror type) {
        return type.getKind() == TypeKind.FLOAT || type.getKind() == TypeKind.DOUBLE;
    }

    private static boolean isOwn(TypeMirror type) {
        return type.getKind() == TypeKind.DECLARED && type.toString().startsWith("MotionStates");
    }

    /** What the compiler adds by itself (a constructor that is not written) has no lines of its own. */
    private boolean isWritten(Tree tree) {
        return start(tree) >= 0 && trees.getSourcePositions().getEndPosition(unit, tree) > start(tree);
    }

    // ---- rule 11: how deep calls go; rule 8: the program has no recursion at all

    private int depthOf(Element method, Set<Element> open) {
        if (!open.add(method)) {
            rule(8, method + " calls itself", false, unit);
            return MOST_DEEP + 1;
        }
        if (!depths.containsKey(method)) {
            int below = 0;
            for (Element called : calls.getOrDefault(method, Set.of())) {
                below = Math.max(below, depthOf(called, open));
            }
            depths.put(method, below + 1);
        }
        open.remove(method);
        return depths.get(method);
    }

    private Element methodAround() {
        for (TreePath path = getCurrentPath(); path != null; path = path.getParentPath()) {
            if (path.getLeaf() instanceof MethodTree) {
                return elementOf(path);
            }
        }
        return null;
    }

    private boolean isBeingMade() {
        Element around = methodAround();
        return around == null || around.getKind() == ElementKind.CONSTRUCTOR;
    }

    // ---- what is there at all

    @Override
    public Void scan(Tree tree, Void none) {
        if (tree != null) {
            rule(6, "no " + tree.getKind(), !RULED_OUT.contains(tree.getKind()), tree);
        }
        return super.scan(tree, none);
    }

    @Override
    public Void visitImport(ImportTree tree, Void none) {
        rule(4, "an import", tree.getQualifiedIdentifier().toString().equals("java.util.Arrays") && !tree.isStatic(), tree);
        return super.visitImport(tree, none);
    }

    @Override
    public Void visitClass(ClassTree tree, Void none) {
        classes++;
        Set<Modifier> modifiers = tree.getModifiers().getFlags();
        boolean isOuter = classes == 1;
        rule(1, "a class's modifiers", isOuter ? modifiers.containsAll(Set.of(Modifier.PUBLIC, Modifier.FINAL))
            : modifiers.contains(Modifier.STATIC) && !modifiers.contains(Modifier.PUBLIC) && !modifiers.contains(Modifier.PROTECTED), tree);
        int fields = 0;
        for (Tree member : tree.getMembers()) {
            rule(5, "a block of its own in a class", member.getKind() != Tree.Kind.BLOCK, member);
            if (member instanceof VariableTree field) {
                boolean isStatic = field.getModifiers().getFlags().contains(Modifier.STATIC);
                fields += isStatic ? 0 : 1;
                rule(5, "a static field is final", !isStatic || field.getModifiers().getFlags().contains(Modifier.FINAL), field);
                rule(5, "a static field's type: " + field.getType(), !isStatic
                    || Set.of("int", "long", "boolean", "char", "String").contains(field.getType().toString()), field);
            }
        }
        rule(11, "fields of " + tree.getSimpleName() + ": " + fields, fields <= MOST_FIELDS, tree);
        return super.visitClass(tree, none);
    }

    @Override
    public Void visitMethod(MethodTree tree, Void none) {
        Element method = elementOf(getCurrentPath());
        calls.putIfAbsent(method, new LinkedHashSet<>());
        if (isWritten(tree)) {
            long first = unit.getLineMap().getLineNumber(start(tree));
            long last = unit.getLineMap().getLineNumber(trees.getSourcePositions().getEndPosition(unit, tree));
            rule(11, tree.getName() + " has " + (last - first + 1) + " lines", last - first < MOST_LINES, tree);
        }
        rule(11, tree.getName() + "'s parameters", tree.getParameters().size() <= MOST_PARAMETERS, tree);
        rule(1, tree.getName() + " bears a public one's name", method.getModifiers().contains(Modifier.PUBLIC)
            || !publicNames.contains(tree.getName().toString()), tree);
        rule(6, tree.getName() + " declares what it throws", tree.getThrows().isEmpty(), tree);
        return super.visitMethod(tree, none);
    }

    // ---- rules 3 and 4: types and the library

    @Override
    public Void visitVariable(VariableTree tree, Void none) {
        TypeMirror type = elementOf(getCurrentPath()).asType();
        if (type instanceof ArrayType row) {
            type = row.getComponentType();
        }
        rule(3, "a variable's type: " + type, type.getKind().isPrimitive() || isOwn(type) || type.toString().equals("java.lang.String"),
            tree);
        return super.visitVariable(tree, none);
    }

    @Override
    public Void visitMethodInvocation(MethodInvocationTree tree, Void none) {
        Element called = elementOf(getCurrentPath());
        String owner = called.getEnclosingElement().toString();
        boolean isOwn = owner.startsWith("MotionStates");
        rule(4, owner + "." + called.getSimpleName(), isOwn || LIBRARY.contains(owner + "." + called.getSimpleName()), tree);
        if (owner.equals("java.lang.Math")) {
            tree.getArguments().forEach(argument -> rule(3, "Math on floats", !isFloating(typeOf(argument)), tree));
        }
        Element around = methodAround();
        if (around != null) {
            calls.computeIfAbsent(around, key -> new LinkedHashSet<>()).add(called);
        }
        return super.visitMethodInvocation(tree, none);
    }

    @Override
    public Void visitNewClass(NewClassTree tree, Void none) {
        rule(12, "an object is made by a call", isBeingMade(), tree);
        rule(3, "an object of another's class", isOwn(typeOf(tree.getIdentifier())), tree);
        return super.visitNewClass(tree, none);
    }

    @Override
    public Void visitNewArray(NewArrayTree tree, Void none) {
        rule(12, "a row is made by a call", isBeingMade(), tree);
        rule(3, "a row of one dimension", tree.getDimensions().size() == 1, tree);
        for (ExpressionTree length : tree.getDimensions()) {
            rule(7, "a row's length is a constant: " + length, length.toString().matches("[A-Z_]+( \\* [A-Z_]+)?"), tree);
        }
        return super.visitNewArray(tree, none);
    }

    @Override
    public Void visitTypeCast(TypeCastTree tree, Void none) {
        rule(6, "a cast to " + tree.getType(), tree.getType().getKind() == Tree.Kind.PRIMITIVE_TYPE, tree);
        return super.visitTypeCast(tree, none);
    }

    @Override
    public Void visitLiteral(LiteralTree tree, Void none) {
        if (tree.getValue() instanceof String text) {
            rule(4, "a text's signs", text.chars().allMatch(sign -> sign >= 1 && sign <= 127), tree);
        }
        return super.visitLiteral(tree, none);
    }

    // ---- rules 3, 7 and 10: what is done with numbers

    @Override
    public Void visitBinary(BinaryTree tree, Void none) {
        operated(tree, tree.getKind(), tree.getLeftOperand(), tree.getRightOperand());
        return super.visitBinary(tree, none);
    }

    @Override
    public Void visitCompoundAssignment(CompoundAssignmentTree tree, Void none) {
        boolean divides = tree.getKind() == Tree.Kind.DIVIDE_ASSIGNMENT || tree.getKind() == Tree.Kind.REMAINDER_ASSIGNMENT;
        rule(7, "a divisor that is not looked at", !divides, tree);
        rule(3, "floats are joined by = alone", !isFloating(typeOf(tree.getVariable())), tree);
        return super.visitCompoundAssignment(tree, none);
    }

    private void operated(Tree tree, Tree.Kind kind, ExpressionTree left, ExpressionTree right) {
        TypeMirror first = typeOf(left);
        TypeMirror second = typeOf(right);
        boolean onFloats = isFloating(first) || isFloating(second);
        rule(3, "on floats: " + kind, !onFloats || ON_FLOATS.contains(kind), tree);
        rule(10, "operands are numbers", first.getKind().isPrimitive() && second.getKind().isPrimitive(), tree);
        boolean divides = kind == Tree.Kind.DIVIDE || kind == Tree.Kind.REMAINDER;
        rule(7, "a divisor that is not looked at", !divides || onFloats, tree);
    }

    // ---- rule 9: loops

    @Override
    public Void visitForLoop(ForLoopTree tree, Void none) {
        rule(9, "a for without a bound", tree.getCondition() != null && tree.getUpdate().size() == 1
            && tree.getCondition().toString().contains("<"), tree);
        return super.visitForLoop(tree, none);
    }

    @Override
    public Void visitWhileLoop(WhileLoopTree tree, Void none) {
        rule(9, "a while without a counter against a bound", tree.getCondition().toString().contains("<"), tree);
        return super.visitWhileLoop(tree, none);
    }

    @Override
    public Void visitDoWhileLoop(DoWhileLoopTree tree, Void none) {
        rule(9, "a do", false, tree);
        return super.visitDoWhileLoop(tree, none);
    }
}
