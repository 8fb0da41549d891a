import com.sun.source.tree.AnnotationTree;
import com.sun.source.tree.ArrayAccessTree;
import com.sun.source.tree.AssertTree;
import com.sun.source.tree.AssignmentTree;
import com.sun.source.tree.BinaryTree;
import com.sun.source.tree.BlockTree;
import com.sun.source.tree.ClassTree;
import com.sun.source.tree.CompilationUnitTree;
import com.sun.source.tree.CompoundAssignmentTree;
import com.sun.source.tree.DoWhileLoopTree;
import com.sun.source.tree.EnhancedForLoopTree;
import com.sun.source.tree.ExpressionTree;
import com.sun.source.tree.ForLoopTree;
import com.sun.source.tree.IdentifierTree;
import com.sun.source.tree.ImportTree;
import com.sun.source.tree.LambdaExpressionTree;
import com.sun.source.tree.LiteralTree;
import com.sun.source.tree.MemberReferenceTree;
import com.sun.source.tree.MemberSelectTree;
import com.sun.source.tree.MethodInvocationTree;
import com.sun.source.tree.MethodTree;
import com.sun.source.tree.NewArrayTree;
import com.sun.source.tree.NewClassTree;
import com.sun.source.tree.ParenthesizedTree;
import com.sun.source.tree.SwitchTree;
import com.sun.source.tree.SynchronizedTree;
import com.sun.source.tree.ThrowTree;
import com.sun.source.tree.Tree;
import com.sun.source.tree.TryTree;
import com.sun.source.tree.TypeCastTree;
import com.sun.source.tree.UnaryTree;
import com.sun.source.tree.VariableTree;
import com.sun.source.tree.WhileLoopTree;
import com.sun.source.util.JavacTask;
import com.sun.source.util.TreePath;
import com.sun.source.util.TreePathScanner;
import com.sun.source.util.Trees;
import java.io.IOException;
import java.net.URI;
import java.util.ArrayList;
import java.util.Arrays;
import java.util.HashSet;
import java.util.LinkedHashMap;
import java.util.LinkedHashSet;
import java.util.List;
import java.util.Map;
import java.util.Set;
import javax.lang.model.element.Element;
import javax.lang.model.element.ElementKind;
import javax.lang.model.element.ExecutableElement;
import javax.lang.model.element.Modifier;
import javax.lang.model.element.TypeElement;
import javax.lang.model.element.VariableElement;
import javax.lang.model.type.ArrayType;
import javax.lang.model.type.TypeKind;
import javax.lang.model.type.TypeMirror;
import javax.tools.Diagnostic;
import javax.tools.DiagnosticCollector;
import javax.tools.JavaCompiler;
import javax.tools.JavaFileObject;
import javax.tools.SimpleJavaFileObject;
import javax.tools.ToolProvider;

/**
 * Reads a program's tree as javac has it, and tells where it breaks a rule of LANGUAGE.md: each fault begins with the
 * rule's number. It is narrower than the rules where the program keeps to less: no recursion, no object made by a call.
 */
final class Rules extends TreePathScanner<Void, Void> {
    private static final int MOST_PARAMETERS = 7;
    private static final int MOST_LINES = 60;
    private static final int MOST_DEEP = 8;
    private static final int MOST_CLASSES = 12;
    private static final int MOST_FIELDS = 20;

    private static final Set<String> LIBRARY = words(
        "java.lang.String length charAt isEmpty equals indexOf substring toCharArray",
        "java.lang.StringBuilder append charAt setCharAt setLength deleteCharAt reverse length toString",
        "java.util.ArrayList add get set remove size isEmpty clear",
        "java.util.List add get set remove size isEmpty clear of",
        "java.util.Iterator hasNext next", "java.lang.Iterable iterator", "java.lang.Comparable compareTo",
        "java.lang.System arraycopy", "java.util.Arrays copyOf copyOfRange fill",
        "java.lang.Integer compare max min bitCount signum numberOfLeadingZeros numberOfTrailingZeros",
        "java.lang.Long compare max min bitCount signum numberOfLeadingZeros numberOfTrailingZeros",
        "java.lang.Math max min abs floorDiv floorMod", "java.lang.Object <init>");
    private static final Set<String> MADE = Set.of("java.lang.String", "java.lang.StringBuilder", "java.util.ArrayList");
    private static final Set<String> IMPORTED =
        Set.of("java.util.Arrays", "java.util.ArrayList", "java.util.List", "java.util.Iterator");

    private final Trees trees;
    private final CompilationUnitTree unit;
    private final Set<String> faults = new LinkedHashSet<>();
    private final Set<String> face = new HashSet<>();
    private final Map<ExecutableElement, Set<ExecutableElement>> calls = new LinkedHashMap<>();
    private Element own = null;
    private ExecutableElement method = null;
    private int classes = 0;

    private Rules(Trees trees, CompilationUnitTree unit) {
        this.trees = trees;
        this.unit = unit;
    }

    private static Set<String> words(String... lines) {
        Set<String> all = new HashSet<>();
        for (String line : lines) {
            String[] parts = line.split(" ");
            for (String part : Arrays.asList(parts).subList(1, parts.length)) {
                all.add(parts[0] + "." + part);
            }
        }
        return all;
    }

    private static final class Text extends SimpleJavaFileObject {
        private final String text;

        Text(String name, String text) {
            super(URI.create("string:///" + name + ".java"), Kind.SOURCE);
            this.text = text;
        }

        @Override
        public CharSequence getCharContent(boolean ignoreEncodingErrors) {
            return text;
        }
    }

    static List<String> faultsOf(String name, String text) throws IOException {
        JavaCompiler javac = ToolProvider.getSystemJavaCompiler();
        DiagnosticCollector<JavaFileObject> said = new DiagnosticCollector<>();
        JavacTask task = (JavacTask) javac.getTask(null, null, said, List.of("-proc:none"), null,
            List.of(new Text(name, text)));
        CompilationUnitTree unit = task.parse().iterator().next();
        task.analyze();
        for (Diagnostic<?> d : said.getDiagnostics()) {
            if (d.getKind() == Diagnostic.Kind.ERROR) {
                return List.of("0: does not compile: " + d);
            }
        }
        Rules rules = new Rules(Trees.instance(task), unit);
        rules.readAll();
        return new ArrayList<>(rules.faults);
    }

    private void readAll() {
        fault(unit.getPackageName() == null, 1, unit, "a package line");
        fault(unit.getTypeDecls().size() == 1, 1, unit, "not one class in the file");
        for (Tree t : unit.getTypeDecls()) {
            for (Tree m : ((ClassTree) t).getMembers()) {
                if (m instanceof MethodTree && ((MethodTree) m).getModifiers().getFlags().contains(Modifier.PUBLIC)) {
                    face.add(((MethodTree) m).getName().toString());
                }
            }
        }
        scan(unit, null);
        fault(classes <= MOST_CLASSES, 11, unit, classes + " classes");
        for (ExecutableElement e : calls.keySet()) {
            deepFrom(e, new ArrayList<>());
        }
    }

    /** How deep calls go from one method, itself counted. */
    private int deepFrom(ExecutableElement from, List<ExecutableElement> open) {
        if (open.contains(from)) {
            faults.add("8: " + from + " calls itself");
            return 0;
        }
        open.add(from);
        int most = 0;
        for (ExecutableElement to : calls.getOrDefault(from, Set.of())) {
            most = Math.max(most, deepFrom(to, open));
        }
        open.remove(from);
        if (most + 1 > MOST_DEEP) {
            faults.add("11: calls go " + (most + 1) + " deep from " + from);
        }
        return most + 1;
    }

    private void fault(boolean keeps, int rule, Tree at, String what) {
        if (!keeps) {
            long place = trees.getSourcePositions().getStartPosition(unit, at);
            long line = place < 0 ? 0 : unit.getLineMap().getLineNumber(place);
            faults.add(rule + ": line " + line + ": " + what);
        }
    }

    private void never(int rule, Tree at) {
        fault(false, rule, at, at.getKind().toString());
    }

    private TreePath path(Tree t) {
        return t == getCurrentPath().getLeaf() ? getCurrentPath() : new TreePath(getCurrentPath(), t);
    }

    private Element element(Tree t) {
        return trees.getElement(path(t));
    }

    private TypeMirror type(Tree t) {
        return trees.getTypeMirror(path(t));
    }

    private Tree parent() {
        return getCurrentPath().getParentPath().getLeaf();
    }

    private boolean isOwn(Element e) {
        Element outermost = e;
        while (outermost != null && outermost.getKind() != ElementKind.PACKAGE && outermost != own) {
            outermost = outermost.getEnclosingElement();
        }
        return own != null && outermost == own;
    }

    private static boolean isField(Element e) {
        return e != null && e.getKind() == ElementKind.FIELD;
    }

    private static boolean isConstant(Element e) {
        return e instanceof VariableElement && ((VariableElement) e).getConstantValue() != null;
    }

    private boolean isText(Tree t) {
        TypeMirror is = type(t);
        return is != null && is.toString().equals("java.lang.String");
    }

    private boolean isHeldNumber(Tree t) {
        TypeMirror is = type(t);
        return is != null && is.toString().equals("java.lang.Integer");
    }

    /** In a constructor, or where a field gets its first value. */
    private boolean isMaking() {
        return method == null || method.getKind() == ElementKind.CONSTRUCTOR;
    }

    // ---- rules 1, 2, 5, 11: classes, fields, methods

    @Override
    public Void visitClass(ClassTree t, Void none) {
        classes++;
        boolean outer = parent() instanceof CompilationUnitTree;
        Set<Modifier> flags = t.getModifiers().getFlags();
        if (outer) {
            own = element(t);
            fault(flags.equals(Set.of(Modifier.PUBLIC, Modifier.FINAL)), 1, t, "is to be public and final");
        } else {
            boolean inside = parent() instanceof ClassTree;
            boolean fixed = flags.contains(Modifier.STATIC) || t.getKind() != Tree.Kind.CLASS;
            boolean open = flags.contains(Modifier.PUBLIC) || flags.contains(Modifier.PROTECTED);
            fault(inside && fixed, 2, t, "a class that isn't static, or is local");
            fault(!open, 1, t, "a class that is public or protected");
        }
        int fields = 0;
        for (Tree m : t.getMembers()) {
            boolean field = m instanceof VariableTree;
            fields += field && !((VariableTree) m).getModifiers().getFlags().contains(Modifier.STATIC) ? 1 : 0;
        }
        fault(fields <= MOST_FIELDS, 11, t, fields + " fields");
        return super.visitClass(t, none);
    }

    @Override
    public Void visitBlock(BlockTree t, Void none) {
        fault(!(parent() instanceof ClassTree), 5, t, "an initialiser block");
        return super.visitBlock(t, none);
    }

    @Override
    public Void visitVariable(VariableTree t, Void none) {
        TypeMirror is = type(t);
        fault(mayBe(is), 3, t, "of type " + is);
        if (parent() instanceof ClassTree) {
            field(t, is);
        }
        return super.visitVariable(t, none);
    }

    private void field(VariableTree t, TypeMirror is) {
        Element e = element(t);
        Set<Modifier> flags = t.getModifiers().getFlags();
        boolean ofFace = t.getName().contentEquals("NONE") && e.getModifiers().contains(Modifier.PUBLIC);
        boolean outer = e.getEnclosingElement().getEnclosingElement().getKind() == ElementKind.PACKAGE;
        fault(!outer || ofFace || flags.contains(Modifier.PRIVATE), 1, t, "a field that isn't private");
        if (flags.contains(Modifier.STATIC)) {
            fault(flags.contains(Modifier.FINAL), 5, t, "a static field that isn't final");
            fault(isConstant(e) || isWrittenOut(t, is), 5, t, "a static field that is no constant");
        }
    }

    private static boolean isWrittenOut(VariableTree t, TypeMirror is) {
        boolean numbers = is.toString().matches("(int|long|char|byte)\\[\\]");
        return numbers && t.getInitializer() instanceof NewArrayTree;
    }

    @Override
    public Void visitMethod(MethodTree t, Void none) {
        ExecutableElement ahead = method;
        method = (ExecutableElement) element(t);
        calls.putIfAbsent(method, new LinkedHashSet<>());
        boolean open = method.getModifiers().contains(Modifier.PUBLIC);
        boolean outer = method.getEnclosingElement().getEnclosingElement().getKind() == ElementKind.PACKAGE;
        fault(!outer || open || method.getModifiers().contains(Modifier.PRIVATE), 1, t, "a method that isn't private");
        boolean made = method.getKind() == ElementKind.CONSTRUCTOR;
        boolean named = !made && !(open && outer) && face.contains(t.getName().toString());
        fault(!named, 1, t, t.getName() + " bears a public name");
        boolean plain = !method.getModifiers().contains(Modifier.SYNCHRONIZED) && t.getThrows().isEmpty();
        fault(plain, 6, t, "synchronized, or throws");
        fault(t.getParameters().size() <= MOST_PARAMETERS, 11, t, t.getParameters().size() + " parameters");
        fault(t.getReturnType() == null || mayBe(method.getReturnType()), 3, t, "answers " + method.getReturnType());
        int lines = lines(t);
        fault(lines <= MOST_LINES, 11, t, lines + " lines");
        super.visitMethod(t, none);
        method = ahead;
        return null;
    }

    private int lines(MethodTree t) {
        long from = trees.getSourcePositions().getStartPosition(unit, t);
        long to = trees.getSourcePositions().getEndPosition(unit, t);
        boolean written = from >= 0 && to >= from;
        return written ? (int) (unit.getLineMap().getLineNumber(to) - unit.getLineMap().getLineNumber(from)) + 1 : 0;
    }

    // ---- rules 3, 4: types and the library

    private boolean mayBe(TypeMirror is) {
        if (is.getKind() == TypeKind.VOID || is.getKind().isPrimitive()) {
            return true;
        }
        if (is.getKind() == TypeKind.ARRAY) {
            TypeMirror of = ((ArrayType) is).getComponentType();
            boolean twice = of.getKind() == TypeKind.ARRAY;
            return twice ? ((ArrayType) of).getComponentType().getKind().isPrimitive() : mayBe(of);
        }
        String name = is.toString();
        String held = name.replaceAll("java\\.util\\.(ArrayList|List|Iterator)<(.*)>", "$2");
        return name.matches("java\\.lang\\.(String|StringBuilder|Integer)") || held.equals("java.lang.Integer")
            || held.startsWith("SundayIsAPlace");
    }

    @Override
    public Void visitImport(ImportTree t, Void none) {
        fault(!t.isStatic() && IMPORTED.contains(t.getQualifiedIdentifier().toString()), 4, t, t.toString().trim());
        return null;
    }

    @Override
    public Void visitAnnotation(AnnotationTree t, Void none) {
        never(4, t);
        return null;
    }

    @Override
    public Void visitMethodInvocation(MethodInvocationTree t, Void none) {
        ExecutableElement called = (ExecutableElement) element(t);
        if (isOwn(called)) {
            call(called);
        } else if (!isCloneOfArray(t)) {
            String owner = ((TypeElement) called.getEnclosingElement()).getQualifiedName().toString();
            fault(LIBRARY.contains(owner + "." + called.getSimpleName()) && takesWhatItMay(owner, called), 4, t,
                owner + "." + called);
        }
        return super.visitMethodInvocation(t, none);
    }

    private void call(ExecutableElement called) {
        if (method != null) {
            calls.get(method).add(called);
        }
    }

    private boolean isCloneOfArray(MethodInvocationTree t) {
        if (!(t.getMethodSelect() instanceof MemberSelectTree)) {
            return false;
        }
        MemberSelectTree select = (MemberSelectTree) t.getMethodSelect();
        return select.getIdentifier().contentEquals("clone")
            && type(select.getExpression()).getKind() == TypeKind.ARRAY;
    }

    /** Of several by one name only those that the rule lists. */
    private static boolean takesWhatItMay(String owner, ExecutableElement called) {
        String name = called.getSimpleName().toString();
        for (VariableElement p : called.getParameters()) {
            String is = p.asType().toString();
            boolean may = !owner.equals("java.lang.Math") || is.matches("int|long");
            may &= !owner.equals("java.util.Arrays") || is.matches("(int|long|short|byte|char|double|float)(\\[\\])?");
            may &= !name.equals("append") || is.matches("char|int|java.lang.String");
            may &= !name.equals("indexOf") || is.equals("int");
            if (!may) {
                return false;
            }
        }
        return true;
    }

    private void reads(Tree t, Element e) {
        boolean length = e != null && e.getSimpleName().contentEquals("length");
        fault(!isField(e) || isOwn(e) || length, 4, t, "the library's " + e);
        if (isField(e) && isOwn(e) && e.getModifiers().contains(Modifier.STATIC)
                && e.asType().getKind() == TypeKind.ARRAY) {
            staticArray(t);
        }
    }

    /** Only its length and what stands at an index are read, so nothing can change it. */
    private void staticArray(Tree t) {
        TreePath above = getCurrentPath().getParentPath();
        Tree by = above.getLeaf();
        boolean indexed = by instanceof ArrayAccessTree && ((ArrayAccessTree) by).getExpression() == t;
        boolean length = by instanceof MemberSelectTree
            && ((MemberSelectTree) by).getIdentifier().contentEquals("length");
        fault(length || (indexed && !isChanged(above)), 5, t, "a static array that isn't only read");
    }

    private static boolean isChanged(TreePath path) {
        Tree target = path.getLeaf();
        Tree by = path.getParentPath().getLeaf();
        return (by instanceof AssignmentTree && ((AssignmentTree) by).getVariable() == target)
            || (by instanceof CompoundAssignmentTree && ((CompoundAssignmentTree) by).getVariable() == target)
            || (by instanceof UnaryTree && by.getKind().toString().matches("(PRE|POST)FIX_.*"));
    }

    @Override
    public Void visitIdentifier(IdentifierTree t, Void none) {
        reads(t, element(t));
        return super.visitIdentifier(t, none);
    }

    @Override
    public Void visitMemberSelect(MemberSelectTree t, Void none) {
        reads(t, element(t));
        return super.visitMemberSelect(t, none);
    }

    @Override
    public Void visitLiteral(LiteralTree t, Void none) {
        if (t.getValue() instanceof String || t.getValue() instanceof Character) {
            String text = t.getValue().toString();
            for (int i = 0; i < text.length(); i++) {
                fault(text.charAt(i) >= 1 && text.charAt(i) <= 127, 4, t, "the sign " + (int) text.charAt(i));
            }
        }
        return super.visitLiteral(t, none);
    }

    // ---- rules 12, 2: what is made

    @Override
    public Void visitNewClass(NewClassTree t, Void none) {
        fault(t.getClassBody() == null, 2, t, "an anonymous class");
        Element made = element(t);
        if (isOwn(made)) {
            call((ExecutableElement) made);
        } else {
            String name = type(t).toString().replaceAll("<.*", "");
            fault(MADE.contains(name) || isOwn(made.getEnclosingElement()), 4, t, "new " + name);
        }
        fault(isMaking(), 12, t, "a call makes an object");
        return super.visitNewClass(t, none);
    }

    @Override
    public Void visitNewArray(NewArrayTree t, Void none) {
        fault(isMaking(), 12, t, "a call makes an array");
        TypeMirror is = type(t);
        fault(is == null || mayBe(is), 3, t, "an array " + is);
        return super.visitNewArray(t, none);
    }

    // ---- rule 6, and 2 again: what stands nowhere

    @Override
    public Void visitLambdaExpression(LambdaExpressionTree t, Void none) {
        never(2, t);
        return null;
    }

    @Override
    public Void visitMemberReference(MemberReferenceTree t, Void none) {
        never(2, t);
        return null;
    }

    @Override
    public Void visitThrow(ThrowTree t, Void none) {
        never(6, t);
        return null;
    }

    @Override
    public Void visitTry(TryTree t, Void none) {
        never(6, t);
        return null;
    }

    @Override
    public Void visitSynchronized(SynchronizedTree t, Void none) {
        never(6, t);
        return null;
    }

    @Override
    public Void visitAssert(AssertTree t, Void none) {
        never(6, t);
        return null;
    }

    @Override
    public Void visitTypeCast(TypeCastTree t, Void none) {
        fault(type(t.getType()).getKind().isPrimitive() || isOwn(element(t.getType())), 6, t, "a cast: " + t);
        return super.visitTypeCast(t, none);
    }

    // ---- rules 7, 9, 10: numbers, texts, loops

    @Override
    public Void visitBinary(BinaryTree t, Void none) {
        switch (t.getKind()) {
            case PLUS:
                fault(!isText(t.getLeftOperand()) && !isText(t.getRightOperand()), 10, t, "texts joined by +");
                break;
            case EQUAL_TO:
            case NOT_EQUAL_TO: {
                boolean texts = isText(t.getLeftOperand()) && isText(t.getRightOperand());
                boolean numbers = isHeldNumber(t.getLeftOperand()) && isHeldNumber(t.getRightOperand());
                fault(!texts && !numbers, 6, t, "two Strings or two Integers compared: " + t);
                break;
            }
            case DIVIDE:
            case REMAINDER: divides(t.getRightOperand()); break;
            default: break;
        }
        return super.visitBinary(t, none);
    }

    /** A constant that isn't 0, or a name that is compared with 0 in the same method. */
    private void divides(ExpressionTree by) {
        ExpressionTree bare = by;
        while (bare instanceof ParenthesizedTree) {
            bare = ((ParenthesizedTree) bare).getExpression();
        }
        Object value = bare instanceof LiteralTree ? ((LiteralTree) bare).getValue() : null;
        Element e = element(bare);
        if (isConstant(e)) {
            value = ((VariableElement) e).getConstantValue();
        }
        boolean fixed = value instanceof Number && ((Number) value).longValue() != 0;
        String body = method == null ? "" : trees.getTree(method).toString();
        boolean seen = e != null && body.contains(e.getSimpleName() + " <= 0");
        fault(fixed || seen, 7, by, "a divisor that isn't looked at: " + by);
    }

    @Override
    public Void visitCompoundAssignment(CompoundAssignmentTree t, Void none) {
        fault(!isText(t.getVariable()), 10, t, "texts joined by +=");
        if (t.getKind() == Tree.Kind.DIVIDE_ASSIGNMENT || t.getKind() == Tree.Kind.REMAINDER_ASSIGNMENT) {
            divides(t.getExpression());
        }
        return super.visitCompoundAssignment(t, none);
    }

    @Override
    public Void visitSwitch(SwitchTree t, Void none) {
        fault(!isText(t.getExpression()), 10, t, "a switch on texts");
        return super.visitSwitch(t, none);
    }

    @Override
    public Void visitForLoop(ForLoopTree t, Void none) {
        fault(t.getCondition() != null, 9, t, "a loop without an end");
        return super.visitForLoop(t, none);
    }

    @Override
    public Void visitWhileLoop(WhileLoopTree t, Void none) {
        fault(!t.getCondition().toString().equals("(true)"), 9, t, "a loop without an end");
        return super.visitWhileLoop(t, none);
    }

    @Override
    public Void visitDoWhileLoop(DoWhileLoopTree t, Void none) {
        fault(!t.getCondition().toString().equals("(true)"), 9, t, "a loop without an end");
        return super.visitDoWhileLoop(t, none);
    }

    @Override
    public Void visitEnhancedForLoop(EnhancedForLoopTree t, Void none) {
        String over = type(t.getExpression()).toString();
        fault(over.endsWith("[]") || over.matches("java\\.util\\.(List|ArrayList)<.*"), 4, t, "a loop over " + over);
        return super.visitEnhancedForLoop(t, none);
    }
}
