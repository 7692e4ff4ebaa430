import com.sun.source.tree.ArrayAccessTree;
import com.sun.source.tree.BinaryTree;
import com.sun.source.tree.BlockTree;
import com.sun.source.tree.ClassTree;
import com.sun.source.tree.CompilationUnitTree;
import com.sun.source.tree.CompoundAssignmentTree;
import com.sun.source.tree.DoWhileLoopTree;
import com.sun.source.tree.ExpressionTree;
import com.sun.source.tree.ForLoopTree;
import com.sun.source.tree.IdentifierTree;
import com.sun.source.tree.LambdaExpressionTree;
import com.sun.source.tree.LiteralTree;
import com.sun.source.tree.MemberReferenceTree;
import com.sun.source.tree.MethodInvocationTree;
import com.sun.source.tree.MethodTree;
import com.sun.source.tree.NewArrayTree;
import com.sun.source.tree.NewClassTree;
import com.sun.source.tree.SynchronizedTree;
import com.sun.source.tree.ThrowTree;
import com.sun.source.tree.Tree;
import com.sun.source.tree.TryTree;
import com.sun.source.tree.TypeCastTree;
import com.sun.source.tree.VariableTree;
import com.sun.source.tree.WhileLoopTree;
import com.sun.source.util.JavacTask;
import com.sun.source.util.SourcePositions;
import com.sun.source.util.TreePath;
import com.sun.source.util.TreePathScanner;
import com.sun.source.util.TreeScanner;
import com.sun.source.util.Trees;
import java.io.IOException;
import java.nio.file.Files;
import java.nio.file.Path;
import java.util.ArrayDeque;
import java.util.ArrayList;
import java.util.Deque;
import java.util.HashMap;
import java.util.HashSet;
import java.util.List;
import java.util.Map;
import java.util.Set;
import java.util.TreeMap;
import java.util.TreeSet;
import javax.lang.model.element.Element;
import javax.lang.model.element.ElementKind;
import javax.lang.model.element.ExecutableElement;
import javax.lang.model.element.Modifier;
import javax.lang.model.element.VariableElement;
import javax.lang.model.type.TypeMirror;
import javax.tools.JavaCompiler;
import javax.tools.StandardJavaFileManager;
import javax.tools.ToolProvider;

/**
 * Looks at a class by the rules of the language, each complaint with the rule's number. Some of it is
 * stricter than the language: the class makes objects in constructors alone, and catches nothing.
 */
final class LanguageRules extends TreePathScanner<Void, Void> {
    private static final Set<String> TYPES = Set.of("int", "long", "boolean", "char", "void", "java.lang.String", "int[]",
        "char[]", "boolean[]", "long[]");
    private static final Set<String> EXCEPTIONS = Set.of("IllegalStateException", "IllegalArgumentException",
        "IndexOutOfBoundsException", "ArithmeticException", "UnsupportedOperationException", "NoSuchElementException",
        "RuntimeException");
    private static final Set<String> LIBRARY = Set.of("java.lang.String.length", "java.lang.String.charAt",
        "java.lang.String.isEmpty", "java.lang.String.equals", "java.lang.String.substring", "java.lang.String.toCharArray",
        "java.lang.System.arraycopy", "java.lang.Math.max", "java.lang.Math.min", "java.lang.Math.abs",
        "java.lang.Math.floorDiv", "java.lang.Math.floorMod");
    private static final int METHOD_LINES = 60;
    private static final int CHAIN = 8;

    private final Path file;
    private final CompilationUnitTree unit;
    private final Trees trees;
    private final SourcePositions positions;
    private final Map<String, Set<String>> calls = new TreeMap<>();
    private final Set<String> privates = new HashSet<>();
    private final Set<String> face = new HashSet<>();
    private final List<String> members = new ArrayList<>();
    private String method = "";
    private MethodTree around;
    private int classes;
    private int looks;
    private int wrong;

    LanguageRules(Path file) throws IOException {
        this.file = file;
        JavaCompiler compiler = ToolProvider.getSystemJavaCompiler();
        try (StandardJavaFileManager files = compiler.getStandardFileManager(null, null, null)) {
            JavacTask task = (JavacTask) compiler.getTask(null, files, null, List.of("-proc:none"), null,
                files.getJavaFileObjects(file));
            unit = task.parse().iterator().next();
            task.analyze();
            trees = Trees.instance(task);
            positions = trees.getSourcePositions();
        }
    }

    int looks() {
        return looks;
    }

    int wrong() {
        return wrong;
    }

    void look(String document) throws IOException {
        String text = Files.readString(file);
        need(text.chars().allMatch(c -> c == 10 || c >= 32 && c < 127), 4, unit, "a sign that is no plain one");
        need(unit.getImports().isEmpty(), 4, unit, "an import");
        need(unit.getPackageName() == null && unit.getTypeDecls().size() == 1, 1, unit, "one class without a package");
        scan(unit, null);
        need(classes <= 12, 11, unit, classes + " classes");
        lookAtFace(faceOf(document));
        lookAtCalls();
    }

    private void lookAtFace(List<String> due) {
        for (String member : due) {
            need(members.contains(member), 1, unit, "not in the face: " + member);
        }
        for (String member : members) {
            need(due.contains(member), 1, unit, "not in the document's face: " + member);
        }
        need(members.equals(due), 1, unit, "the face is in another order");
    }

    private void need(boolean ok, int rule, Tree at, String what) {
        looks++;
        if (!ok) {
            wrong++;
            long line = unit.getLineMap().getLineNumber(Math.max(0, positions.getStartPosition(unit, at)));
            System.out.println("rule " + rule + ", line " + line + (method.isEmpty() ? "" : " in " + method) + ": " + what);
        }
    }

    private int lines(Tree tree) {
        long from = unit.getLineMap().getLineNumber(positions.getStartPosition(unit, tree));
        return (int) (unit.getLineMap().getLineNumber(positions.getEndPosition(unit, tree)) - from) + 1;
    }

    private Element element() {
        return trees.getElement(getCurrentPath());
    }

    // ---- the face

    /** The lines of the document's face, each as one that a class would have. */
    private static List<String> faceOf(String document) {
        String block = document.substring(document.indexOf("public final class"), document.indexOf("}\n```"));
        List<String> lines = new ArrayList<>();
        for (String line : block.split(";|\\{")) {
            String plain = line.replaceAll("\\s+", " ").trim();
            if (plain.startsWith("public") && !plain.contains(" class ")) {
                lines.add(plain);
            }
        }
        return lines;
    }

    private static String plain(Object tree) {
        return tree.toString().replaceAll("\\s+", " ").trim();
    }

    private void addMember(MethodTree m) {
        face.add(m.getName().toString());
        StringBuilder b = new StringBuilder("public ");
        b.append(m.getReturnType() == null ? "Treeletter" : m.getReturnType() + " " + m.getName()).append('(');
        b.append(plain(m.getParameters())).append(')');
        if (!m.getThrows().isEmpty()) {
            b.append(" throws ").append(plain(m.getThrows()));
        }
        members.add(b.toString().replace(",", ", ").replaceAll(" +", " "));
    }

    // ---- classes, methods, fields

    private boolean isOuter(TreePath path) {
        return path.getParentPath().getLeaf() == unit;
    }

    @Override
    public Void visitClass(ClassTree c, Void none) {
        classes++;
        Set<Modifier> flags = c.getModifiers().getFlags();
        if (isOuter(getCurrentPath())) {
            need(flags.equals(Set.of(Modifier.PUBLIC, Modifier.FINAL)), 1, c, "is not public and final");
        } else {
            need(flags.contains(Modifier.STATIC), 2, c, "is not static");
            need(!flags.contains(Modifier.PUBLIC) && !flags.contains(Modifier.PROTECTED), 1, c, "seen from outside");
            need(getCurrentPath().getParentPath().getLeaf() instanceof ClassTree, 2, c, "a local or anonymous class");
        }
        int fields = 0;
        for (Tree member : c.getMembers()) {
            need(!(member instanceof BlockTree), 5, member, "an initialiser block");
            if (member instanceof VariableTree) {
                fields += ((VariableTree) member).getModifiers().getFlags().contains(Modifier.STATIC) ? 0 : 1;
            }
        }
        need(fields <= 20, 11, c, fields + " fields of " + c.getSimpleName());
        return super.visitClass(c, none);
    }

    @Override
    public Void visitMethod(MethodTree m, Void none) {
        ExecutableElement e = (ExecutableElement) element();
        method = e.getEnclosingElement().getSimpleName() + "." + e;
        around = m;
        calls.computeIfAbsent(method, k -> new TreeSet<>());
        if (e.getModifiers().contains(Modifier.PRIVATE)) {
            privates.add(method);
        }
        if (isOuter(getCurrentPath().getParentPath()) && e.getModifiers().contains(Modifier.PUBLIC)) {
            addMember(m);
        } else if (isOuter(getCurrentPath().getParentPath())) {
            need(privates.contains(method), 1, m, "neither public nor private");
        }
        need(m.getParameters().size() <= 7, 11, m, m.getParameters().size() + " parameters");
        need(lines(m) <= METHOD_LINES, 11, m, lines(m) + " lines");
        need(!m.getModifiers().getFlags().contains(Modifier.SYNCHRONIZED), 6, m, "synchronized");
        needType(e.getReturnType(), m);
        super.visitMethod(m, none);
        method = "";
        around = null;
        return null;
    }

    @Override
    public Void visitVariable(VariableTree v, Void none) {
        Element e = element();
        needType(e.asType(), v);
        Set<Modifier> flags = e.getModifiers();
        if (e.getKind() == ElementKind.FIELD && flags.contains(Modifier.STATIC)) {
            need(flags.contains(Modifier.FINAL) && ((VariableElement) e).getConstantValue() != null, 5, v,
                v.getName() + " is no constant");
        }
        if (e.getKind() == ElementKind.FIELD && isOuter(getCurrentPath().getParentPath())) {
            if (flags.contains(Modifier.PUBLIC)) {
                members.add("public static final " + e.asType() + " " + v.getName() + " = " + ((VariableElement) e).getConstantValue());
            } else {
                need(flags.contains(Modifier.PRIVATE), 1, v, v.getName() + " is not private");
            }
        }
        return super.visitVariable(v, none);
    }

    private void needType(TypeMirror type, Tree at) {
        String name = type.toString();
        need(TYPES.contains(name) || name.matches("Treeletter\\.\\w+(\\[\\])?"), 3, at, "the type " + name);
    }

    // ---- what methods do

    @Override
    public Void visitMethodInvocation(MethodInvocationTree m, Void none) {
        Element e = element();
        String owner = e.getEnclosingElement().toString();
        if (!owner.startsWith("java.")) {
            calls.computeIfAbsent(method, k -> new TreeSet<>()).add(e.getEnclosingElement().getSimpleName() + "." + e);
        } else if (e.getKind() != ElementKind.CONSTRUCTOR) {
            need(LIBRARY.contains(owner + "." + e.getSimpleName()), 4, m, "the library's " + owner + "." + e);
            need(!owner.endsWith("Math") || e.toString().matches("\\w+\\(((int|long),?)+\\)"), 4, m, "no int or long: " + e);
        }
        return super.visitMethodInvocation(m, none);
    }

    @Override
    public Void visitNewClass(NewClassTree n, Void none) {
        Tree parent = getCurrentPath().getParentPath().getLeaf();
        need(parent instanceof ThrowTree || isMaking(), 12, n, "made by a call: " + n);
        need(n.getClassBody() == null, 2, n, "an anonymous class");
        return super.visitNewClass(n, none);
    }

    @Override
    public Void visitNewArray(NewArrayTree n, Void none) {
        need(isMaking(), 12, n, "made by a call: " + n);
        for (ExpressionTree length : n.getDimensions()) {
            boolean bounded = length.toString().startsWith("Math.max(0, ") || plain(length).matches("[A-Z_ *]+|\\d+");
            need(bounded, 7, n, "a length that may be below 0: " + length);
        }
        return super.visitNewArray(n, none);
    }

    /** Whether this is in a constructor, or behind the = of a field. */
    private boolean isMaking() {
        return around == null || around.getReturnType() == null;
    }

    @Override
    public Void visitThrow(ThrowTree t, Void none) {
        boolean plain = t.getExpression() instanceof NewClassTree;
        need(plain, 6, t, "throws what it has not made");
        if (plain) {
            NewClassTree made = (NewClassTree) t.getExpression();
            need(EXCEPTIONS.contains(made.getIdentifier().toString()), 6, t, "throws " + made.getIdentifier());
            boolean told = made.getArguments().isEmpty() || made.getArguments().get(0) instanceof LiteralTree;
            need(told && made.getArguments().size() <= 1, 6, t, "throws with no written text");
        }
        need(around != null && around.getReturnType() != null, 6, t, "a throw in a constructor");
        return super.visitThrow(t, none);
    }

    @Override
    public Void visitTry(TryTree t, Void none) {
        need(false, 6, t, "a try");
        return super.visitTry(t, none);
    }

    @Override
    public Void visitSynchronized(SynchronizedTree s, Void none) {
        need(false, 6, s, "synchronized");
        return super.visitSynchronized(s, none);
    }

    @Override
    public Void visitLambdaExpression(LambdaExpressionTree l, Void none) {
        need(false, 2, l, "a lambda");
        return super.visitLambdaExpression(l, none);
    }

    @Override
    public Void visitMemberReference(MemberReferenceTree m, Void none) {
        need(false, 2, m, "a reference to a method");
        return super.visitMemberReference(m, none);
    }

    @Override
    public Void visitTypeCast(TypeCastTree c, Void none) {
        need(c.getType().toString().matches("int|long|char"), 6, c, "a cast that may throw: " + c);
        return super.visitTypeCast(c, none);
    }

    @Override
    public Void visitLiteral(LiteralTree l, Void none) {
        if (l.getValue() instanceof String) {
            need(((String) l.getValue()).chars().allMatch(c -> c >= 1 && c <= 127), 4, l, "a text's sign above 127");
        }
        return super.visitLiteral(l, none);
    }

    @Override
    public Void visitBinary(BinaryTree b, Void none) {
        Tree.Kind kind = b.getKind();
        if (kind == Tree.Kind.DIVIDE || kind == Tree.Kind.REMAINDER) {
            needDivisor(b.getRightOperand(), b);
        }
        if (kind == Tree.Kind.EQUAL_TO || kind == Tree.Kind.NOT_EQUAL_TO) {
            need(!isText(b.getLeftOperand()) && !isText(b.getRightOperand()), 6, b, "== of two Strings");
        }
        need(!isText(b), 10, b, "a text joined by +");
        return super.visitBinary(b, none);
    }

    @Override
    public Void visitCompoundAssignment(CompoundAssignmentTree c, Void none) {
        if (c.getKind() == Tree.Kind.DIVIDE_ASSIGNMENT || c.getKind() == Tree.Kind.REMAINDER_ASSIGNMENT) {
            needDivisor(c.getExpression(), c);
        }
        need(!isText(c.getVariable()), 10, c, "a text joined by +");
        return super.visitCompoundAssignment(c, none);
    }

    private boolean isText(Tree tree) {
        TypeMirror type = trees.getTypeMirror(new TreePath(getCurrentPath(), tree));
        return type != null && type.toString().equals("java.lang.String");
    }

    private void needDivisor(ExpressionTree divisor, Tree at) {
        boolean constant = divisor instanceof LiteralTree || plain(divisor).matches("[A-Z_]+");
        need(constant || looksAt(namesIn(divisor)), 7, at, "a divisor that is not looked at: " + divisor);
    }

    // ---- indexes

    @Override
    public Void visitArrayAccess(ArrayAccessTree a, Void none) {
        need(looksAt(namesIn(a.getIndex())), 7, a, "an index that is not looked at: " + a);
        return super.visitArrayAccess(a, none);
    }

    /** Names of what an expression reckons with, but for constants and the rows that it looks into. */
    private static Set<String> namesIn(Tree tree) {
        Set<String> names = new HashSet<>();
        new TreeScanner<Void, Void>() {
            @Override
            public Void visitIdentifier(IdentifierTree i, Void none) {
                if (!i.getName().toString().matches("[A-Z_]+")) {
                    names.add(i.getName().toString());
                }
                return null;
            }

            @Override
            public Void visitArrayAccess(ArrayAccessTree a, Void none) {
                return scan(a.getIndex(), none);
            }
        }.scan(tree, null);
        return names;
    }

    /** Whether the method that stands around compares each of these names with something, or hands it to has. */
    private boolean looksAt(Set<String> names) {
        Set<String> seen = new HashSet<>();
        new TreeScanner<Void, Void>() {
            @Override
            public Void visitBinary(BinaryTree b, Void none) {
                if (b.getKind().toString().matches("LESS_THAN.*|GREATER_THAN.*")) {
                    seen.addAll(namesIn(b));
                }
                return super.visitBinary(b, none);
            }

            @Override
            public Void visitMethodInvocation(MethodInvocationTree m, Void none) {
                if (m.getMethodSelect().toString().matches("(\\w+\\.)?(has|is)")) {
                    seen.addAll(namesIn(m.getArguments().get(0)));
                }
                return super.visitMethodInvocation(m, none);
            }
        }.scan(around, null);
        return seen.containsAll(names);
    }

    // ---- loops

    @Override
    public Void visitForLoop(ForLoopTree f, Void none) {
        needEnd(f.getCondition(), f);
        return super.visitForLoop(f, none);
    }

    @Override
    public Void visitWhileLoop(WhileLoopTree w, Void none) {
        needEnd(w.getCondition(), w);
        return super.visitWhileLoop(w, none);
    }

    @Override
    public Void visitDoWhileLoop(DoWhileLoopTree d, Void none) {
        needEnd(d.getCondition(), d);
        return super.visitDoWhileLoop(d, none);
    }

    private void needEnd(ExpressionTree condition, Tree at) {
        need(condition != null && plain(condition).matches(".*(<|>|<=|>=).*"), 9, at, "a loop without a bound");
    }

    // ---- chains of calls

    private void lookAtCalls() {
        Map<String, Set<String>> reached = new HashMap<>();
        for (String name : calls.keySet()) {
            reached.put(name, reachedFrom(name));
        }
        Map<String, Integer> known = new HashMap<>();
        for (String name : calls.keySet()) {
            method = name;
            need(!reached.get(name).contains(name) || privates.contains(name), 8, unit, "a recursion that is not private");
            int deep = chain(name, reached, known);
            need(deep <= CHAIN, 11, unit, "calls " + deep + " deep");
            String bare = name.replaceAll("\\(.*", "").replaceAll(".*\\.", "");
            need(!privates.contains(name) || !face.contains(bare), 1, unit, "a private method with a name of the face");
        }
    }

    private Set<String> reachedFrom(String name) {
        Set<String> reached = new HashSet<>();
        Deque<String> open = new ArrayDeque<>(List.of(name));
        while (!open.isEmpty()) {
            for (String next : calls.getOrDefault(open.pop(), Set.of())) {
                if (reached.add(next)) {
                    open.push(next);
                }
            }
        }
        return reached;
    }

    /** How deep calls go from a method on, where those that call one another count as one. */
    private int chain(String name, Map<String, Set<String>> reached, Map<String, Integer> known) {
        if (known.containsKey(name)) {
            return known.get(name);
        }
        Set<String> ring = new HashSet<>(Set.of(name));
        for (String other : calls.keySet()) {
            if (reached.get(name).contains(other) && reached.get(other).contains(name)) {
                ring.add(other);
            }
        }
        int deepest = 0;
        for (String one : ring) {
            for (String next : calls.get(one)) {
                deepest = Math.max(deepest, ring.contains(next) || !calls.containsKey(next) ? 0 : chain(next, reached, known));
            }
        }
        for (String one : ring) {
            known.put(one, deepest + 1);
        }
        return deepest + 1;
    }
}
