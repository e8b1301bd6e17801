import com.sun.source.tree.AnnotationTree;
import com.sun.source.tree.AssertTree;
import com.sun.source.tree.BinaryTree;
import com.sun.source.tree.BlockTree;
import com.sun.source.tree.ClassTree;
import com.sun.source.tree.CompilationUnitTree;
import com.sun.source.tree.EnhancedForLoopTree;
import com.sun.source.tree.ExpressionTree;
import com.sun.source.tree.ForLoopTree;
import com.sun.source.tree.ImportTree;
import com.sun.source.tree.LambdaExpressionTree;
import com.sun.source.tree.LiteralTree;
import com.sun.source.tree.MemberReferenceTree;
import com.sun.source.tree.MethodInvocationTree;
import com.sun.source.tree.MethodTree;
import com.sun.source.tree.NewClassTree;
import com.sun.source.tree.SynchronizedTree;
import com.sun.source.tree.ThrowTree;
import com.sun.source.tree.Tree;
import com.sun.source.tree.TryTree;
import com.sun.source.tree.TypeCastTree;
import com.sun.source.tree.VariableTree;
import com.sun.source.util.JavacTask;
import com.sun.source.util.SourcePositions;
import com.sun.source.util.TreePathScanner;
import com.sun.source.util.Trees;
import java.io.IOException;
import java.nio.file.Path;
import java.util.ArrayList;
import java.util.List;
import java.util.Map;
import java.util.Set;
import java.util.TreeMap;
import java.util.TreeSet;
import java.util.stream.Stream;
import javax.lang.model.element.Element;
import javax.lang.model.element.ElementKind;
import javax.lang.model.element.Modifier;
import javax.lang.model.element.TypeElement;
import javax.lang.model.type.TypeMirror;
import javax.tools.JavaCompiler;
import javax.tools.StandardJavaFileManager;
import javax.tools.ToolProvider;

/**
 * What a reader of trees can see of LANGUAGE.md: the kinds of statement, types and library calls of
 * the class, and its counts (lines, parameters, classes, fields, depth of calls). A fault begins with
 * the number of the rule.
 */
public final class LanguageTest extends TreePathScanner<Void, Void> {
    private static final int MOST_PARAMETERS = 7;
    private static final int MOST_LINES = 60;
    private static final int MOST_CLASSES = 12;
    private static final int MOST_FIELDS = 20;
    private static final int MOST_DEPTH = 8;

    private static final Map<String, Set<String>> LIBRARY = Map.of(
            "java.lang.String", Set.of("length", "charAt", "isEmpty", "equals", "indexOf", "substring",
                    "toCharArray"),
            "java.lang.StringBuilder", Set.of("append", "charAt", "setCharAt", "setLength",
                    "deleteCharAt", "reverse", "length", "toString"),
            "java.util.ArrayList", Set.of("add", "get", "set", "remove", "size", "isEmpty", "clear"),
            "java.util.List", Set.of("add", "get", "set", "remove", "size", "isEmpty", "clear", "of"),
            "java.lang.Math", Set.of("max", "min", "abs", "floorDiv", "floorMod"),
            "java.lang.Integer", Set.of("compare", "max", "min", "abs", "bitCount"),
            "java.lang.Long", Set.of("compare", "max", "min", "abs", "bitCount"),
            "java.lang.System", Set.of("arraycopy"),
            "java.util.Arrays", Set.of("copyOf", "copyOfRange", "fill"));
    private static final Set<String> APPENDED = Set.of("char", "java.lang.String", "int");
    private static final Set<String> NUMBERS =
            Set.of("int", "long", "short", "byte", "char", "boolean", "double", "float");
    private static final Set<String> EXCEPTIONS = Set.of("IllegalStateException",
            "IllegalArgumentException", "IndexOutOfBoundsException", "ArithmeticException",
            "UnsupportedOperationException", "NoSuchElementException", "RuntimeException");

    private final Trees trees;
    private final SourcePositions positions;
    private final CompilationUnitTree unit;
    private final TreeSet<String> own = new TreeSet<>();
    private final TreeMap<String, TreeSet<String>> callsOf = new TreeMap<>();
    private final List<String> faults = new ArrayList<>();
    private String method = "";
    private boolean inConstructor;

    private LanguageTest(Trees trees, CompilationUnitTree unit) {
        this.trees = trees;
        positions = trees.getSourcePositions();
        this.unit = unit;
    }

    public static void main(String[] args) throws IOException {
        Path tests = Path.of(args.length > 0 ? args[0] : "src/test");
        Path source = tests.resolve("../main/java/NumberOffice.java").normalize();
        JavaCompiler compiler = ToolProvider.getSystemJavaCompiler();
        try (StandardJavaFileManager files = compiler.getStandardFileManager(null, null, null)) {
            JavacTask task = (JavacTask) compiler.getTask(null, files, null,
                    List.of("--release", "17", "-proc:none"), null, files.getJavaFileObjects(source));
            CompilationUnitTree unit = task.parse().iterator().next();
            task.analyze();
            LanguageTest test = new LanguageTest(Trees.instance(task), unit);
            test.look();
            test.faults.forEach(System.out::println);
            System.out.println(test.own.size() + " classes, "
                    + test.faults.size() + " faults of the language");
            if (!test.faults.isEmpty()) {
                System.exit(1);
            }
        }
    }

    private void look() {
        if (unit.getPackageName() != null || unit.getTypeDecls().size() != 1) {
            faults.add("0: a package line, or not one class");
        }
        unit.getTypeDecls().forEach(type -> collectClasses((ClassTree) type, ""));
        if (own.size() > MOST_CLASSES) {
            faults.add("11: " + own.size() + " classes");
        }
        scan(unit, null);
        for (String each : callsOf.keySet()) {
            depthOf(each, new ArrayList<>());
        }
    }

    private void collectClasses(ClassTree type, String outer) {
        String name = outer + type.getSimpleName();
        own.add(name);
        type.getMembers().stream().filter(ClassTree.class::isInstance)
                .forEach(member -> collectClasses((ClassTree) member, name + "."));
    }

    private void fault(Tree tree, String text) {
        faults.add(text + " (line " + line(positions.getStartPosition(unit, tree)) + ")");
    }

    private long line(long position) {
        return unit.getLineMap().getLineNumber(position);
    }

    /** How deep the calls go that begin with this one; a call that stands open already is recursion. */
    private int depthOf(String name, List<String> open) {
        if (open.contains(name)) {
            faults.add("8: recursion, not looked at: " + open + " " + name);
            return 0;
        }
        open.add(name);
        int deepest = 0;
        for (String called : callsOf.getOrDefault(name, new TreeSet<>())) {
            deepest = Math.max(deepest, depthOf(called, open));
        }
        if (open.size() > MOST_DEPTH) {
            faults.add("11: too deep: " + open);
        }
        open.remove(open.size() - 1);
        return deepest + 1;
    }

    @Override
    public Void visitImport(ImportTree tree, Void none) {
        if (!Set.of("java.util.ArrayList", "java.util.List", "java.util.Arrays")
                .contains(tree.getQualifiedIdentifier().toString())) {
            fault(tree, "4: " + tree);
        }
        return null;
    }

    @Override
    public Void visitClass(ClassTree tree, Void none) {
        boolean nested = getCurrentPath().getParentPath().getLeaf() instanceof ClassTree;
        Set<Modifier> modifiers = tree.getModifiers().getFlags();
        if (nested && (!modifiers.contains(Modifier.STATIC) || modifiers.contains(Modifier.PUBLIC)
                || modifiers.contains(Modifier.PROTECTED))) {
            fault(tree, "1: a class inside that is not static, or public or protected");
        }
        if (getCurrentPath().getParentPath().getLeaf() instanceof MethodTree) {
            fault(tree, "2: a local class");
        }
        long fields = tree.getMembers().stream().filter(VariableTree.class::isInstance)
                .filter(m -> !((VariableTree) m).getModifiers().getFlags().contains(Modifier.STATIC)).count();
        if (fields > MOST_FIELDS) {
            fault(tree, "11: " + fields + " fields");
        }
        return super.visitClass(tree, none);
    }

    @Override
    public Void visitMethod(MethodTree tree, Void none) {
        Element element = trees.getElement(getCurrentPath());
        method = nameOf(element);
        inConstructor = element.getKind() == ElementKind.CONSTRUCTOR;
        callsOf.computeIfAbsent(method, x -> new TreeSet<>());
        noteOverridden(element);
        if (tree.getParameters().size() > MOST_PARAMETERS) {
            fault(tree, "11: " + tree.getParameters().size() + " parameters");
        }
        long lines = line(positions.getEndPosition(unit, tree))
                - line(positions.getStartPosition(unit, tree)) + 1;
        if (positions.getEndPosition(unit, tree) >= 0 && lines > MOST_LINES) {
            fault(tree, "11: " + lines + " lines");
        }
        lookForNameOfFace(tree, element);
        super.visitMethod(tree, none);
        method = "";
        return null;
    }

    /** Rule 1 says private method; a method of a class inside with such a name would be as unclear. */
    private void lookForNameOfFace(MethodTree tree, Element element) {
        boolean isPublic = element.getModifiers().contains(Modifier.PUBLIC);
        boolean bearsName = Stream.of(NumberOffice.class.getMethods())
                .filter(m -> m.getDeclaringClass() == NumberOffice.class)
                .anyMatch(m -> m.getName().contentEquals(tree.getName()));
        if (!isPublic && bearsName) {
            fault(tree, "1: the name of a public method: " + tree.getName());
        }
    }

    private static String nameOf(Element element) {
        return element.getEnclosingElement() + "." + element;
    }

    private void noteCall(String caller, Element called) {
        callsOf.computeIfAbsent(caller, x -> new TreeSet<>()).add(nameOf(called));
    }

    /** A call of the method above may go to this one. */
    private void noteOverridden(Element element) {
        String above = ((TypeElement) element.getEnclosingElement()).getSuperclass().toString();
        if (own.contains(above) && element.getKind() == ElementKind.METHOD) {
            noteCall(above + "." + element, element);
        }
    }

    @Override
    public Void visitVariable(VariableTree tree, Void none) {
        Element element = trees.getElement(getCurrentPath());
        Set<Modifier> modifiers = element.getModifiers();
        lookAtType(tree, element.asType());
        if (modifiers.contains(Modifier.STATIC) && (!modifiers.contains(Modifier.FINAL)
                || !Set.of("int", "long", "boolean", "char", "java.lang.String")
                        .contains(element.asType().toString()))) {
            fault(tree, "5: a static field that is no plain constant: " + tree.getName());
        }
        return super.visitVariable(tree, none);
    }

    private void lookAtType(Tree tree, TypeMirror type) {
        String text = type.toString();
        String inside = text.replaceAll("^java\\.util\\.(?:Array)?List<(.*)>$", "$1");
        boolean isRow = text.matches("[\\w.]+\\[\\]");
        String bare = isRow ? text.substring(0, text.length() - 2) : inside;
        boolean isText = Set.of("java.lang.String", "java.lang.StringBuilder").contains(bare);
        boolean fits = own.contains(bare)
                || NUMBERS.contains(bare) && inside.equals(text)
                || isText && !isRow && inside.equals(text)
                || bare.equals("java.lang.Integer") && !inside.equals(text)
                || text.matches("(?:int|long|short|byte|char|boolean|double|float)\\[\\]\\[\\]");
        if (!fits) {
            fault(tree, "3: the type " + text);
        }
    }

    @Override
    public Void visitMethodInvocation(MethodInvocationTree tree, Void none) {
        Element called = trees.getElement(getCurrentPath());
        String owner = called.getEnclosingElement().toString();
        String name = called.getSimpleName().toString();
        if (own.contains(owner)) {
            noteCall(method, called);
            if (inConstructor && called.getKind() == ElementKind.METHOD && !cannotBeOverridden(called)) {
                fault(tree, "12: a constructor calls a method that could be overridden");
            }
        } else if (!isSuperOfObject(owner, name)
                && !LIBRARY.getOrDefault(owner, Set.of()).contains(name)) {
            fault(tree, "4: " + owner + "." + name);
        }
        if (owner.equals("java.lang.StringBuilder") && name.equals("append")
                && !APPENDED.contains(called.asType().toString().replaceAll("^\\((.*)\\).*$", "$1"))) {
            fault(tree, "4: " + called);
        }
        return super.visitMethodInvocation(tree, none);
    }

    private static boolean isSuperOfObject(String owner, String name) {
        return owner.equals("java.lang.Object") && name.equals("<init>");
    }

    private static boolean cannotBeOverridden(Element called) {
        return called.getModifiers().contains(Modifier.PRIVATE)
                || called.getModifiers().contains(Modifier.STATIC)
                || called.getModifiers().contains(Modifier.FINAL)
                || called.getEnclosingElement().getModifiers().contains(Modifier.FINAL);
    }

    @Override
    public Void visitNewClass(NewClassTree tree, Void none) {
        Element made = trees.getElement(getCurrentPath());
        String owner = made.getEnclosingElement().toString();
        boolean thrown = getCurrentPath().getParentPath().getLeaf() instanceof ThrowTree;
        if (own.contains(owner)) {
            noteCall(method, made);
        } else if (!thrown && !Set.of("java.util.ArrayList", "java.lang.StringBuilder",
                "java.lang.String").contains(owner)) {
            fault(tree, "4: new " + owner);
        }
        if (tree.getClassBody() != null) {
            fault(tree, "2: an anonymous class, not looked at");
        }
        return super.visitNewClass(tree, none);
    }

    @Override
    public Void visitThrow(ThrowTree tree, Void none) {
        boolean fits = !inConstructor && tree.getExpression() instanceof NewClassTree made
                && EXCEPTIONS.contains(made.getIdentifier().toString()) && isWritten(made.getArguments());
        if (!fits) {
            fault(tree, "6: " + tree);
        }
        return super.visitThrow(tree, none);
    }

    private static boolean isWritten(List<? extends ExpressionTree> arguments) {
        return arguments.isEmpty() || arguments.size() == 1 && arguments.get(0) instanceof LiteralTree;
    }

    @Override
    public Void visitBinary(BinaryTree tree, Void none) {
        boolean joins = tree.getKind() == Tree.Kind.PLUS && "java.lang.String".equals(
                String.valueOf(trees.getTypeMirror(getCurrentPath())));
        if (joins) {
            fault(tree, "10: texts joined by +");
        }
        return super.visitBinary(tree, none);
    }

    @Override
    public Void visitForLoop(ForLoopTree tree, Void none) {
        if (tree.getCondition() == null || tree.getUpdate().isEmpty()) {
            fault(tree, "9: a loop without an end in its own lines");
        }
        return super.visitForLoop(tree, none);
    }

    @Override
    public Void visitEnhancedForLoop(EnhancedForLoopTree tree, Void none) {
        fault(tree, "12: a loop that may make an iterator, not looked at");
        return super.visitEnhancedForLoop(tree, none);
    }

    @Override
    public Void visitTypeCast(TypeCastTree tree, Void none) {
        if (!NUMBERS.contains(tree.getType().toString())) {
            fault(tree, "6: a cast, not looked at");
        }
        return super.visitTypeCast(tree, none);
    }

    @Override
    public Void visitBlock(BlockTree tree, Void none) {
        if (getCurrentPath().getParentPath().getLeaf() instanceof ClassTree) {
            fault(tree, "5: an initialiser block");
        }
        return super.visitBlock(tree, none);
    }

    @Override
    public Void visitLambdaExpression(LambdaExpressionTree tree, Void none) {
        fault(tree, "2: a lambda");
        return null;
    }

    @Override
    public Void visitMemberReference(MemberReferenceTree tree, Void none) {
        fault(tree, "2: a method reference");
        return null;
    }

    @Override
    public Void visitTry(TryTree tree, Void none) {
        fault(tree, "6: a try, not looked at");
        return super.visitTry(tree, none);
    }

    @Override
    public Void visitSynchronized(SynchronizedTree tree, Void none) {
        fault(tree, "6: synchronized");
        return null;
    }

    @Override
    public Void visitAssert(AssertTree tree, Void none) {
        fault(tree, "6: assert");
        return null;
    }

    @Override
    public Void visitAnnotation(AnnotationTree tree, Void none) {
        fault(tree, "4: " + tree);
        return null;
    }
}
