import com.sun.source.tree.*;
import com.sun.source.util.JavacTask;
import com.sun.source.util.SourcePositions;
import com.sun.source.util.TreePath;
import com.sun.source.util.TreePathScanner;
import com.sun.source.util.Trees;
import java.io.IOException;
import java.net.URI;
import java.util.List;
import java.util.Map;
import java.util.Set;
import java.util.TreeMap;
import java.util.TreeSet;
import javax.lang.model.element.Element;
import javax.lang.model.element.ElementKind;
import javax.lang.model.element.ExecutableElement;
import javax.lang.model.element.Modifier;
import javax.lang.model.element.VariableElement;
import javax.lang.model.type.TypeMirror;
import javax.tools.JavaCompiler;
import javax.tools.SimpleJavaFileObject;
import javax.tools.ToolProvider;

/** Reads a source as the compiler does and tells which rules of LANGUAGE.md it breaks, as far as a reader can see. */
final class Rules extends TreePathScanner<Void, Void> {
    private static final int MOST_PARAMETERS = 7;
    private static final int MOST_LINES = 60;
    private static final int MOST_DEEP = 8;
    private static final int MOST_CLASSES = 12;
    private static final int MOST_FIELDS = 20;

    private static final Set<String> THROWN = Set.of("IllegalStateException", "IllegalArgumentException",
            "IndexOutOfBoundsException", "ArithmeticException", "UnsupportedOperationException",
            "NoSuchElementException", "RuntimeException");
    private static final Set<String> LIBRARY = Set.of("String.length", "String.charAt", "String.isEmpty",
            "String.equals", "String.indexOf", "String.substring", "String.toCharArray", "StringBuilder.append",
            "StringBuilder.charAt", "StringBuilder.setCharAt", "StringBuilder.setLength", "StringBuilder.deleteCharAt",
            "StringBuilder.reverse", "StringBuilder.length", "StringBuilder.toString", "System.arraycopy",
            "Arrays.copyOf", "Arrays.copyOfRange", "Arrays.fill", "Math.max", "Math.min", "Math.abs", "Math.floorDiv",
            "Math.floorMod", "Integer.bitCount", "Integer.compare", "Integer.max", "Integer.min", "Long.compare");
    private static final Set<String> TYPES = Set.of("int", "long", "short", "byte", "char", "boolean", "double", "float",
            "java.lang.String", "java.lang.StringBuilder", "java.lang.Integer");

    private final Set<String> broken = new TreeSet<>();
    private final Map<String, Set<String>> calls = new TreeMap<>();
    private final Trees trees;
    private final CompilationUnitTree unit;
    private int classes = 0;
    private int loops = 0;
    private String method = "";
    private boolean constructor = false;

    private Rules(Trees trees, CompilationUnitTree unit) {
        this.trees = trees;
        this.unit = unit;
    }

    /** The rules that are broken, each with where, as "11: ..". */
    static Set<String> brokenBy(String source) throws IOException {
        JavaCompiler compiler = ToolProvider.getSystemJavaCompiler();
        SimpleJavaFileObject file = new SimpleJavaFileObject(URI.create("string:///CascadeBus.java"),
                SimpleJavaFileObject.Kind.SOURCE) {
            @Override
            public CharSequence getCharContent(boolean ignoreErrors) {
                return source;
            }
        };
        List<String> options = List.of("-proc:none");
        JavacTask task = (JavacTask) compiler.getTask(null, null, d -> { }, options, null, List.of(file));
        CompilationUnitTree unit = task.parse().iterator().next();
        task.analyze();
        Rules rules = new Rules(Trees.instance(task), unit);
        rules.scan(unit, null);
        rules.atMost("11: classes", rules.classes, MOST_CLASSES);
        for (String start : rules.calls.keySet()) {
            rules.atMost("11: calls from " + start, rules.depth(start, 0), MOST_DEEP);
        }
        return rules.broken;
    }

    private void breaks(String rule) {
        broken.add(rule + (method.isEmpty() ? "" : " in " + method));
    }

    private void atMost(String rule, int many, int most) {
        if (many > most) {
            broken.add(rule + ": " + many);
        }
    }

    /** How many calls stand open at most, its own with them; a chain that has no end counts as too long. */
    private int depth(String name, int above) {
        int deepest = 0;
        for (String called : above > MOST_DEEP ? Set.<String>of() : calls.getOrDefault(name, Set.of())) {
            deepest = Math.max(deepest, depth(called, above + 1));
        }
        return deepest + 1;
    }

    @Override
    public Void visitImport(ImportTree t, Void v) {
        if (!Set.of("java.util.NoSuchElementException", "java.util.Arrays", "java.util.ArrayList", "java.util.List",
                "java.util.Iterator").contains(t.getQualifiedIdentifier().toString())) {
            breaks("4: import " + t.getQualifiedIdentifier());
        }
        return null;
    }

    @Override
    public Void visitClass(ClassTree t, Void v) {
        classes++;
        boolean outer = getCurrentPath().getParentPath().getLeaf() == unit;
        Set<Modifier> m = t.getModifiers().getFlags();
        if (!outer && (!m.contains(Modifier.STATIC) || m.contains(Modifier.PUBLIC) || m.contains(Modifier.PROTECTED))) {
            breaks("1: class " + t.getSimpleName());
        }
        int fields = 0;
        for (Tree member : t.getMembers()) {
            if (member instanceof VariableTree field && !field.getModifiers().getFlags().contains(Modifier.STATIC)) {
                fields++;
            }
            if (member instanceof BlockTree) {
                breaks("5: initialiser block of " + t.getSimpleName());
            }
        }
        atMost("11: fields of " + t.getSimpleName(), fields, MOST_FIELDS);
        return super.visitClass(t, v);
    }

    @Override
    public Void visitMethod(MethodTree t, Void v) {
        ExecutableElement itself = (ExecutableElement) trees.getElement(getCurrentPath());
        method = name(itself);
        constructor = itself.getKind() == ElementKind.CONSTRUCTOR;
        calls.putIfAbsent(method, new TreeSet<>());
        atMost("11: parameters of " + method, t.getParameters().size(), MOST_PARAMETERS);
        SourcePositions at = trees.getSourcePositions();
        LineMap lines = unit.getLineMap();
        if (at.getEndPosition(unit, t) >= 0) {
            long many = lines.getLineNumber(at.getEndPosition(unit, t))
                    - lines.getLineNumber(at.getStartPosition(unit, t)) + 1;
            atMost("11: lines of " + method, (int) many, MOST_LINES);
        }
        super.visitMethod(t, v);
        method = "";
        constructor = false;
        return null;
    }

    @Override
    public Void visitVariable(VariableTree t, Void v) {
        Element itself = trees.getElement(getCurrentPath());
        Set<Modifier> m = itself.getModifiers();
        if (m.contains(Modifier.STATIC) && !m.contains(Modifier.FINAL)) {
            breaks("5: " + t.getName() + " is static, not final");
        }
        if (m.contains(Modifier.STATIC) && ((VariableElement) itself).getConstantValue() == null) {
            breaks("5: " + t.getName() + " is no constant");
        }
        if (!isAllowed(itself.asType().toString())) {
            breaks("3: " + t.getName() + " is " + itself.asType());
        }
        return super.visitVariable(t, v);
    }

    private static boolean isAllowed(String type) {
        String of = type;
        int dimensions = 0;
        while (of.endsWith("[]")) {
            of = of.substring(0, of.length() - 2);
            dimensions++;
        }
        boolean own = of.equals("CascadeBus") || of.startsWith("CascadeBus.");
        return dimensions <= 1 && (own || TYPES.contains(of));
    }

    @Override
    public Void visitMethodInvocation(MethodInvocationTree t, Void v) {
        if (trees.getElement(getCurrentPath()) instanceof ExecutableElement called) {
            String name = name(called);
            calls.computeIfAbsent(method, k -> new TreeSet<>()).add(name);
            boolean own = called.getEnclosingElement().toString().startsWith("CascadeBus");
            boolean superCall = called.getKind() == ElementKind.CONSTRUCTOR;
            if (!own && !superCall && !LIBRARY.contains(name)) {
                breaks("4: " + name);
            }
        }
        return super.visitMethodInvocation(t, v);
    }

    private static String name(ExecutableElement method) {
        return method.getEnclosingElement().getSimpleName() + "." + method.getSimpleName();
    }

    @Override
    public Void visitNewClass(NewClassTree t, Void v) {
        String type = String.valueOf(typeOf(t));
        if (loops > 0) {
            breaks("12: new " + type + " in a loop");
        }
        String simple = type.substring(type.lastIndexOf('.') + 1);
        if (!type.startsWith("CascadeBus.") && !THROWN.contains(simple)) {
            breaks("4: new " + type);
        }
        return super.visitNewClass(t, v);
    }

    @Override
    public Void visitNewArray(NewArrayTree t, Void v) {
        if (loops > 0) {
            breaks("12: a new array in a loop");
        }
        return super.visitNewArray(t, v);
    }

    private TypeMirror typeOf(Tree t) {
        return trees.getTypeMirror(new TreePath(getCurrentPath(), t));
    }

    @Override
    public Void visitThrow(ThrowTree t, Void v) {
        boolean fresh = t.getExpression() instanceof NewClassTree made
                && THROWN.contains(made.getIdentifier().toString())
                && made.getArguments().stream().allMatch(a -> a.getKind() == Tree.Kind.STRING_LITERAL);
        if (!fresh) {
            breaks("6: throw " + t.getExpression());
        }
        if (constructor) {
            breaks("6: throw in a constructor");
        }
        return super.visitThrow(t, v);
    }

    /** None is needed here: whatever is caught could be what the machine throws. */
    @Override
    public Void visitTry(TryTree t, Void v) {
        breaks("6: try");
        return super.visitTry(t, v);
    }

    @Override
    public Void visitSynchronized(SynchronizedTree t, Void v) {
        breaks("6: synchronized");
        return super.visitSynchronized(t, v);
    }

    @Override
    public Void visitAssert(AssertTree t, Void v) {
        breaks("6: assert");
        return super.visitAssert(t, v);
    }

    @Override
    public Void visitLambdaExpression(LambdaExpressionTree t, Void v) {
        breaks("2: lambda");
        return super.visitLambdaExpression(t, v);
    }

    @Override
    public Void visitMemberReference(MemberReferenceTree t, Void v) {
        breaks("2: method reference");
        return super.visitMemberReference(t, v);
    }

    @Override
    public Void visitBinary(BinaryTree t, Void v) {
        boolean text = isText(t.getLeftOperand()) || isText(t.getRightOperand());
        if (text && t.getKind() == Tree.Kind.PLUS) {
            breaks("10: texts joined by +");
        }
        if (text && (t.getKind() == Tree.Kind.EQUAL_TO || t.getKind() == Tree.Kind.NOT_EQUAL_TO)) {
            breaks("6: texts held against each other by ==");
        }
        boolean divides = t.getKind() == Tree.Kind.DIVIDE || t.getKind() == Tree.Kind.REMAINDER;
        if (divides && !isTestedDivisor(t.getRightOperand())) {
            breaks("7: divided by " + t.getRightOperand());
        }
        return super.visitBinary(t, v);
    }

    private boolean isText(Tree t) {
        return "java.lang.String".equals(String.valueOf(typeOf(t)));
    }

    /** A constant, or a plain name that the same method holds against 0. */
    private boolean isTestedDivisor(ExpressionTree t) {
        Element named = trees.getElement(new TreePath(getCurrentPath(), t));
        if (t instanceof LiteralTree || named instanceof VariableElement w && w.getConstantValue() != null) {
            return true;
        }
        TreePath at = getCurrentPath();
        while (at != null && !(at.getLeaf() instanceof MethodTree)) {
            at = at.getParentPath();
        }
        return at != null && at.getLeaf().toString().contains(t + " > 0");
    }

    @Override
    public Void visitForLoop(ForLoopTree t, Void v) {
        if (t.getCondition() == null) {
            breaks("9: for without an end");
        }
        loops++;
        super.visitForLoop(t, v);
        loops--;
        return null;
    }

    @Override
    public Void visitEnhancedForLoop(EnhancedForLoopTree t, Void v) {
        loops++;
        super.visitEnhancedForLoop(t, v);
        loops--;
        return null;
    }

    /** A while's end is seen from its own lines: a counter against a bound stands in its condition. */
    @Override
    public Void visitWhileLoop(WhileLoopTree t, Void v) {
        if (!t.getCondition().toString().contains(" < ")) {
            breaks("9: while " + t.getCondition());
        }
        loops++;
        super.visitWhileLoop(t, v);
        loops--;
        return null;
    }

    @Override
    public Void visitDoWhileLoop(DoWhileLoopTree t, Void v) {
        breaks("9: do");
        return super.visitDoWhileLoop(t, v);
    }
}
