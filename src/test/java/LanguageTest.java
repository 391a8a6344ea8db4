import com.sun.source.tree.BinaryTree;
import com.sun.source.tree.ClassTree;
import com.sun.source.tree.CompilationUnitTree;
import com.sun.source.tree.LiteralTree;
import com.sun.source.tree.MemberSelectTree;
import com.sun.source.tree.MethodInvocationTree;
import com.sun.source.tree.MethodTree;
import com.sun.source.tree.NewClassTree;
import com.sun.source.tree.Tree;
import com.sun.source.tree.VariableTree;
import com.sun.source.util.JavacTask;
import com.sun.source.util.SourcePositions;
import com.sun.source.util.TreePathScanner;
import com.sun.source.util.Trees;
import java.io.IOException;
import java.nio.file.Path;
import java.util.EnumSet;
import java.util.HashMap;
import java.util.HashSet;
import java.util.List;
import java.util.Map;
import java.util.Set;
import javax.lang.model.element.Element;
import javax.lang.model.element.Modifier;
import javax.tools.JavaCompiler;
import javax.tools.StandardJavaFileManager;
import javax.tools.ToolProvider;

/** Rules of ../shared/LANGUAGE.md that can be seen in the source's tree. */
public final class LanguageTest extends TreePathScanner<Void, Void> {
    private static final Set<Tree.Kind> FORBIDDEN = EnumSet.of(Tree.Kind.TRY, Tree.Kind.THROW, Tree.Kind.CATCH,
            Tree.Kind.SYNCHRONIZED, Tree.Kind.ASSERT, Tree.Kind.LAMBDA_EXPRESSION, Tree.Kind.MEMBER_REFERENCE,
            Tree.Kind.IMPORT, Tree.Kind.PACKAGE, Tree.Kind.ANNOTATION, Tree.Kind.BINDING_PATTERN,
            Tree.Kind.FLOAT_LITERAL, Tree.Kind.DOUBLE_LITERAL);
    private static final Set<String> LIBRARY = Set.of("System.arraycopy", "Math.min", "Math.max", "WORDS.length",
            "WORDS.charAt");
    private static final Set<String> PRIMITIVES = Set.of("int", "long", "byte", "boolean");
    private static final Set<String> LIBRARY_NAMES = Set.of("System", "Math", "WORDS", "Integer", "Long", "Arrays");

    private final CompilationUnitTree unit;
    private final Trees trees;
    private final SourcePositions positions;
    /** For each method those that it calls, itself left out: recursion does not count here. */
    private final Map<Element, Set<Element>> calls = new HashMap<>();
    private final Map<Element, Integer> depths = new HashMap<>();
    private Element method;
    private final Check check = new Check();
    private final Set<String> publicNames = new HashSet<>();
    private final Set<String> otherNames = new HashSet<>();
    private final Set<String> ownClasses = new HashSet<>();
    private final Set<String> typesUsed = new HashSet<>();
    private int classes;

    private LanguageTest(CompilationUnitTree unit, Trees trees) {
        this.unit = unit;
        this.trees = trees;
        positions = trees.getSourcePositions();
    }

    public static void main(String[] args) throws IOException {
        JavaCompiler compiler = ToolProvider.getSystemJavaCompiler();
        try (StandardJavaFileManager files = compiler.getStandardFileManager(null, null, null)) {
            JavacTask task = (JavacTask) compiler.getTask(null, files, null, List.of("--release", "17"), null,
                    files.getJavaFileObjects(Path.of("src/main/java/ClockRiver.java")));
            CompilationUnitTree unit = task.parse().iterator().next();
            task.analyze();
            LanguageTest test = new LanguageTest(unit, Trees.instance(task));
            test.scan(unit, null);
            test.end();
        }
    }

    private void end() {
        publicNames.retainAll(otherNames);
        check.due("no other method bears a public one's name: " + publicNames, publicNames.size(), 0);
        check.due("classes, some twelve: " + classes, classes <= 12, true);
        for (Element called : calls.keySet()) {
            check.due(called + " goes eight calls deep at most", depthOf(called) <= 8, true);
        }
        for (String type : typesUsed) {
            check.due("the type " + type + " is one that rule 3 leaves", isType(type), true);
        }
        check.end("LanguageTest");
    }

    private boolean isType(String type) {
        String of = type.replace("[]", "");
        int dimensions = (type.length() - of.length()) / 2;
        return dimensions <= (PRIMITIVES.contains(of) ? 2 : 1)
                && (PRIMITIVES.contains(of) || ownClasses.contains(of) || type.equals("String"));
    }

    private int depthOf(Element called) {
        Integer known = depths.get(called);
        if (known != null) {
            return known;
        }
        // a ring of methods would be met here again before it is known
        depths.put(called, 1000);
        int deepest = 0;
        for (Element next : calls.getOrDefault(called, Set.of())) {
            deepest = Math.max(deepest, depthOf(next));
        }
        depths.put(called, deepest + 1);
        return deepest + 1;
    }

    private long line(Tree tree) {
        return unit.getLineMap().getLineNumber(positions.getStartPosition(unit, tree));
    }

    private long lastLine(Tree tree) {
        return unit.getLineMap().getLineNumber(positions.getEndPosition(unit, tree));
    }

    @Override
    public Void scan(Tree tree, Void nothing) {
        if (tree != null && FORBIDDEN.contains(tree.getKind())) {
            check.due("line " + line(tree) + ": " + tree.getKind(), false, true);
        }
        return super.scan(tree, nothing);
    }

    @Override
    public Void visitClass(ClassTree tree, Void nothing) {
        classes++;
        ownClasses.add(tree.getSimpleName().toString());
        Set<Modifier> has = tree.getModifiers().getFlags();
        boolean isFace = tree.getSimpleName().contentEquals("ClockRiver");
        check.due(tree.getSimpleName() + " is as it must be",
                has.contains(Modifier.FINAL) && has.contains(isFace ? Modifier.PUBLIC : Modifier.STATIC), true);
        int fields = 0;
        for (Tree member : tree.getMembers()) {
            if (member instanceof VariableTree field) {
                Set<Modifier> flags = field.getModifiers().getFlags();
                boolean isStatic = flags.contains(Modifier.STATIC);
                fields += isStatic ? 0 : 1;
                check.due(field.getName() + " is final if static", !isStatic || flags.contains(Modifier.FINAL), true);
                boolean isNone = field.getName().contentEquals("NONE");
                check.due(field.getName() + " is private in the face",
                        !isFace || isNone || flags.contains(Modifier.PRIVATE), true);
            } else if (member instanceof MethodTree method) {
                noteName(method, isFace);
            }
        }
        check.due("fields of " + tree.getSimpleName() + ", some twenty: " + fields, fields <= 20, true);
        return super.visitClass(tree, nothing);
    }

    private void noteName(MethodTree method, boolean isFace) {
        String name = method.getName().toString();
        Set<Modifier> flags = method.getModifiers().getFlags();
        if (name.equals("<init>")) {
            return;
        }
        if (flags.contains(Modifier.PUBLIC)) {
            publicNames.add(name);
        } else {
            otherNames.add(name);
            check.due(name + " is private in the face", !isFace || flags.contains(Modifier.PRIVATE), true);
        }
    }

    @Override
    public Void visitMethod(MethodTree tree, Void nothing) {
        check.due(tree.getName() + " has seven parameters at most", tree.getParameters().size() <= 7, true);
        long lines = lastLine(tree) - line(tree) + 1;
        check.due(tree.getName() + " is short: " + lines, lines <= 60, true);
        method = trees.getElement(getCurrentPath());
        calls.put(method, new HashSet<>());
        return super.visitMethod(tree, nothing);
    }

    @Override
    public Void visitVariable(VariableTree tree, Void nothing) {
        typesUsed.add(tree.getType().toString());
        return super.visitVariable(tree, nothing);
    }

    @Override
    public Void visitNewClass(NewClassTree tree, Void nothing) {
        typesUsed.add(tree.getIdentifier().toString());
        boolean isInCall = method != null && !method.getSimpleName().contentEquals("<init>");
        boolean isOfField = getCurrentPath().getParentPath().getLeaf() instanceof VariableTree
                && getCurrentPath().getParentPath().getParentPath().getLeaf() instanceof ClassTree;
        check.due("line " + line(tree) + ": objects are made with the object alone", isOfField || !isInCall, true);
        return super.visitNewClass(tree, nothing);
    }

    @Override
    public Void visitBinary(BinaryTree tree, Void nothing) {
        boolean isText = isText(tree.getLeftOperand()) || isText(tree.getRightOperand());
        check.due("line " + line(tree) + ": texts are not joined by +", isText, false);
        return super.visitBinary(tree, nothing);
    }

    private static boolean isText(Tree tree) {
        return tree instanceof LiteralTree literal && literal.getValue() instanceof String;
    }

    @Override
    public Void visitMethodInvocation(MethodInvocationTree tree, Void nothing) {
        if (tree.getMethodSelect() instanceof MemberSelectTree select
                && LIBRARY_NAMES.contains(select.getExpression().toString())) {
            check.due("line " + line(tree) + ": " + select + " is of the library",
                    LIBRARY.contains(select.toString()), true);
        }
        Element called = trees.getElement(getCurrentPath());
        if (called != method && calls.containsKey(method)) {
            calls.get(method).add(called);
        }
        return super.visitMethodInvocation(tree, nothing);
    }
}
