import com.sun.source.tree.BinaryTree;
import com.sun.source.tree.ClassTree;
import com.sun.source.tree.CompilationUnitTree;
import com.sun.source.tree.ExpressionTree;
import com.sun.source.tree.LiteralTree;
import com.sun.source.tree.MethodTree;
import com.sun.source.tree.MethodInvocationTree;
import com.sun.source.tree.NewClassTree;
import com.sun.source.tree.ThrowTree;
import com.sun.source.tree.Tree;
import com.sun.source.tree.TypeCastTree;
import com.sun.source.tree.VariableTree;
import com.sun.source.util.JavacTask;
import com.sun.source.util.TreePathScanner;
import com.sun.source.util.Trees;
import java.io.File;
import java.io.IOException;
import java.util.ArrayDeque;
import java.util.Collections;
import java.util.Deque;
import java.util.EnumSet;
import java.util.HashMap;
import java.util.HashSet;
import java.util.List;
import java.util.Map;
import java.util.Set;
import java.util.TreeSet;
import javax.lang.model.element.Element;
import javax.lang.model.element.ExecutableElement;
import javax.lang.model.element.Modifier;
import javax.lang.model.element.TypeElement;
import javax.lang.model.util.Elements;
import javax.tools.JavaCompiler;
import javax.tools.StandardJavaFileManager;
import javax.tools.ToolProvider;

/** LANGUAGE.md's rules 4, 6, 8, 10 and 11, as far as the compiler's tree of the class shows them. */
public final class LanguageTest extends TreePathScanner<Void, Void> {
    private static final File SOURCE = new File("src/main/java/Trellistag.java");

    /** What the class uses of the library; a name more here must stand in rule 4. */
    private static final Set<String> LIBRARY = Set.of("Math.min");
    private static final Set<String> EXCEPTIONS = Set.of(
        "IllegalStateException", "IllegalArgumentException", "IndexOutOfBoundsException");
    /** What rules 4, 6 and 10 rule out, and what the class has no need of. */
    private static final Set<Tree.Kind> NOT_USED = EnumSet.of(
        Tree.Kind.IMPORT, Tree.Kind.PACKAGE, Tree.Kind.LAMBDA_EXPRESSION, Tree.Kind.MEMBER_REFERENCE, Tree.Kind.ASSERT,
        Tree.Kind.SYNCHRONIZED, Tree.Kind.TRY, Tree.Kind.INSTANCE_OF, Tree.Kind.ANNOTATION);

    private static final int MOST_PARAMETERS = 7;
    private static final int MOST_LINES = 60;
    private static final int MOST_CLASSES = 12;
    private static final int MOST_FIELDS = 20;
    private static final int MOST_DEPTH = 8;

    private final CompilationUnitTree unit;
    private final Trees trees;
    private final Elements elements;
    private final Map<ExecutableElement, Set<ExecutableElement>> calls = new HashMap<>();
    private final Deque<ExecutableElement> inside = new ArrayDeque<>();
    private final Set<String> library = new TreeSet<>();
    private int classes = 0;

    private LanguageTest(CompilationUnitTree unit, Trees trees, Elements elements) {
        this.unit = unit;
        this.trees = trees;
        this.elements = elements;
    }

    public static void main(String[] args) throws IOException {
        JavaCompiler compiler = ToolProvider.getSystemJavaCompiler();
        try (StandardJavaFileManager files = compiler.getStandardFileManager(null, null, null)) {
            JavacTask task = (JavacTask) compiler.getTask(null, files, null, List.of("--release", "17", "-proc:none"),
                null, files.getJavaFileObjects(SOURCE));
            CompilationUnitTree unit = task.parse().iterator().next();
            task.analyze();
            new LanguageTest(unit, Trees.instance(task), task.getElements()).look();
        }
        Check.finish();
    }

    private void look() {
        scan(unit, null);
        Check.due("classes: " + classes, classes <= MOST_CLASSES, true);
        Check.due("what is used of the library", library, new TreeSet<>(LIBRARY));
        for (ExecutableElement method : calls.keySet()) {
            if (method.getModifiers().contains(Modifier.PUBLIC)) {
                int depth = depth(method, new HashSet<>());
                Check.due("calls of " + method + ", itself counted, go deep: " + depth, depth <= MOST_DEPTH, true);
            }
        }
    }

    /** The method itself and the library's count, too; a call that may go to several goes to the deepest. */
    private int depth(ExecutableElement method, Set<ExecutableElement> open) {
        boolean recursion = !open.add(method);
        Check.due("recursion through " + method, recursion, false);
        int deepest = 0;
        if (!recursion) {
            for (ExecutableElement called : calls.getOrDefault(method, Set.of())) {
                for (ExecutableElement target : targets(called)) {
                    deepest = Math.max(deepest, depth(target, open));
                }
            }
            open.remove(method);
        }
        return deepest + 1;
    }

    private Set<ExecutableElement> targets(ExecutableElement called) {
        Set<ExecutableElement> targets = new HashSet<>();
        for (ExecutableElement method : calls.keySet()) {
            TypeElement owner = (TypeElement) method.getEnclosingElement();
            if (elements.overrides(method, called, owner)) {
                targets.add(method);
            }
        }
        return targets.isEmpty() ? Collections.singleton(called) : targets;
    }

    @Override
    public Void scan(Tree tree, Void none) {
        if (tree != null) {
            Check.due("uses " + tree.getKind() + ": " + tree, NOT_USED.contains(tree.getKind()), false);
        }
        return super.scan(tree, none);
    }

    @Override
    public Void visitClass(ClassTree type, Void none) {
        classes++;
        int fields = 0;
        for (Tree member : type.getMembers()) {
            boolean own = member instanceof VariableTree field
                && !field.getModifiers().getFlags().contains(Modifier.STATIC);
            fields += own ? 1 : 0;
        }
        Check.due("fields of " + type.getSimpleName() + ": " + fields, fields <= MOST_FIELDS, true);
        return super.visitClass(type, none);
    }

    @Override
    public Void visitMethod(MethodTree method, Void none) {
        int parameters = method.getParameters().size();
        Check.due("parameters of " + method.getName() + ": " + parameters, parameters <= MOST_PARAMETERS, true);
        long lines = line(trees.getSourcePositions().getEndPosition(unit, method))
            - line(Math.max(0, trees.getSourcePositions().getStartPosition(unit, method))) + 1;
        Check.due("lines of " + method.getName() + ": " + lines, lines <= MOST_LINES, true);
        ExecutableElement element = (ExecutableElement) trees.getElement(getCurrentPath());
        calls.put(element, new HashSet<>());
        inside.push(element);
        super.visitMethod(method, none);
        inside.pop();
        return null;
    }

    private long line(long position) {
        return unit.getLineMap().getLineNumber(position);
    }

    @Override
    public Void visitMethodInvocation(MethodInvocationTree call, Void none) {
        called(trees.getElement(getCurrentPath()));
        return super.visitMethodInvocation(call, none);
    }

    @Override
    public Void visitNewClass(NewClassTree made, Void none) {
        Element constructor = trees.getElement(getCurrentPath());
        if (!EXCEPTIONS.contains(constructor.getEnclosingElement().getSimpleName().toString())) {
            called(constructor);
        }
        return super.visitNewClass(made, none);
    }

    private void called(Element element) {
        ExecutableElement method = (ExecutableElement) element;
        TypeElement owner = (TypeElement) method.getEnclosingElement();
        boolean ofObject = owner.getQualifiedName().contentEquals("java.lang.Object");
        if (owner.getQualifiedName().toString().startsWith("java") && !ofObject) {
            library.add(owner.getSimpleName() + "." + method.getSimpleName());
        }
        if (!inside.isEmpty() && !ofObject) {
            calls.get(inside.peek()).add(method);
        }
    }

    /** Casts of numbers can't fail; the class has no need of others. */
    @Override
    public Void visitTypeCast(TypeCastTree cast, Void none) {
        Check.due("casts a number: " + cast, cast.getType().getKind(), Tree.Kind.PRIMITIVE_TYPE);
        return super.visitTypeCast(cast, none);
    }

    /** "joining texts by StringBuilder (not by +)". */
    @Override
    public Void visitBinary(BinaryTree binary, Void none) {
        boolean number = trees.getTypeMirror(getCurrentPath()).getKind().isPrimitive();
        Check.due("answers a number or boolean: " + binary, number, true);
        return super.visitBinary(binary, none);
    }

    /** "throw new E("a written text")", and "no throw in a constructor". */
    @Override
    public Void visitThrow(ThrowTree thrown, Void none) {
        ExpressionTree made = thrown.getExpression();
        boolean written = made instanceof NewClassTree exception
            && EXCEPTIONS.contains(exception.getIdentifier().toString())
            && exception.getArguments().size() == 1
            && exception.getArguments().get(0) instanceof LiteralTree;
        Check.due("a written text: " + thrown, written, true);
        Check.due("in a constructor: " + thrown, inside.peek().getSimpleName().contentEquals("<init>"), false);
        return super.visitThrow(thrown, none);
    }
}
