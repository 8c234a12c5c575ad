import com.sun.source.tree.AssertTree;
import com.sun.source.tree.BinaryTree;
import com.sun.source.tree.BlockTree;
import com.sun.source.tree.ClassTree;
import com.sun.source.tree.CompilationUnitTree;
import com.sun.source.tree.ForLoopTree;
import com.sun.source.tree.ImportTree;
import com.sun.source.tree.LambdaExpressionTree;
import com.sun.source.tree.LiteralTree;
import com.sun.source.tree.MemberReferenceTree;
import com.sun.source.tree.MethodInvocationTree;
import com.sun.source.tree.MethodTree;
import com.sun.source.tree.NewClassTree;
import com.sun.source.tree.SynchronizedTree;
import com.sun.source.tree.ThrowTree;
import com.sun.source.tree.Tree;
import com.sun.source.tree.TryTree;
import com.sun.source.tree.TypeCastTree;
import com.sun.source.tree.VariableTree;
import com.sun.source.util.JavacTask;
import com.sun.source.util.TreePath;
import com.sun.source.util.TreePathScanner;
import com.sun.source.util.Trees;
import java.io.IOException;
import java.nio.file.Files;
import java.nio.file.Path;
import java.util.ArrayDeque;
import java.util.Deque;
import java.util.HashMap;
import java.util.HashSet;
import java.util.LinkedHashMap;
import java.util.LinkedHashSet;
import java.util.Map;
import java.util.Set;
import java.util.StringJoiner;
import java.util.TreeSet;
import javax.lang.model.element.Element;
import javax.lang.model.element.ElementKind;
import javax.lang.model.element.ExecutableElement;
import javax.lang.model.element.Modifier;
import javax.lang.model.element.TypeElement;
import javax.lang.model.element.VariableElement;
import javax.lang.model.type.ArrayType;
import javax.lang.model.type.TypeKind;
import javax.lang.model.type.TypeMirror;
import javax.tools.JavaCompiler;
import javax.tools.StandardJavaFileManager;
import javax.tools.ToolProvider;

/** What of LANGUAGE.md can be read off the class's file; what the class does without is refused whole (try, say). */
public final class LanguageTest extends TreePathScanner<Void, Void> {
    private static final Path FILE = Path.of("src/main/java/WardEngine.java");
    private static final String OWN = "WardEngine";
    private static final Set<String> EXCEPTIONS = Set.of("IllegalStateException", "IllegalArgumentException",
            "IndexOutOfBoundsException", "ArithmeticException", "UnsupportedOperationException", "NoSuchElementException",
            "RuntimeException");
    private static final Set<String> LIBRARY = Set.of("String.length()", "String.charAt(int)", "String.isEmpty()",
            "String.equals(java.lang.Object)", "String.indexOf(int)", "String.substring(int)", "String.substring(int,int)",
            "String.toCharArray()", "StringBuilder.append(char)", "StringBuilder.append(java.lang.String)",
            "StringBuilder.append(int)", "StringBuilder.charAt(int)", "StringBuilder.setCharAt(int,char)",
            "StringBuilder.setLength(int)", "StringBuilder.deleteCharAt(int)", "StringBuilder.reverse()",
            "StringBuilder.length()", "StringBuilder.toString()", "Math.max(int,int)", "Math.min(int,int)",
            "System.arraycopy(java.lang.Object,int,java.lang.Object,int,int)", "Arrays.fill(int[],int)", "Object.Object()");
    private static final int MOST_PARAMETERS = 7;
    private static final int MOST_LINES = 60;
    private static final int MOST_DEPTH = 8;
    private static final int MOST_CLASSES = 12;
    private static final int MOST_FIELDS = 20;

    private final Trees trees;
    private final CompilationUnitTree unit;
    private final Set<String> face = new TreeSet<>();
    private final Map<Element, Set<Element>> called = new LinkedHashMap<>();
    private int classes;

    private LanguageTest(Trees trees, CompilationUnitTree unit) {
        this.trees = trees;
        this.unit = unit;
    }

    public static void main(String[] args) throws IOException {
        for (byte sign : Files.readAllBytes(FILE)) {
            if (sign != '\n' && (sign < 32 || sign > 126)) {
                wrong("rule 3: a sign that is no plain one");
            }
        }
        JavaCompiler compiler = ToolProvider.getSystemJavaCompiler();
        try (StandardJavaFileManager files = compiler.getStandardFileManager(null, null, null)) {
            JavacTask task = (JavacTask) compiler.getTask(null, files, null, null, null, files.getJavaFileObjects(FILE));
            CompilationUnitTree unit = task.parse().iterator().next();
            task.analyze();
            LanguageTest test = new LanguageTest(Trees.instance(task), unit);
            test.findFace();
            test.scan(unit, null);
            Check.is("rule 11: classes, at most twelve", test.classes <= MOST_CLASSES ? 1 : 0, 1);
            Check.is("a class was read", test.classes > 1 && test.face.size() == 28 ? 1 : 0, 1);
            test.lookAtDepth();
        }
        Check.end("LanguageTest");
    }

    private static void wrong(String what) {
        Check.same(what, "there is one", "none");
    }

    private void wrong(String rule, Tree tree) {
        long line = unit.getLineMap().getLineNumber(trees.getSourcePositions().getStartPosition(unit, tree));
        wrong(rule + ", line " + line + " of WardEngine.java");
    }

    private void must(String rule, Tree tree, boolean holds) {
        Check.is(rule, 1, 1);
        if (!holds) {
            wrong(rule, tree);
        }
    }

    private Element element(Tree tree) {
        return trees.getElement(new TreePath(getCurrentPath(), tree));
    }

    private static boolean isOwn(String type) {
        return type.equals(OWN) || type.startsWith(OWN + ".");
    }

    private boolean isInConstructor() {
        for (TreePath path = getCurrentPath(); path != null; path = path.getParentPath()) {
            if (path.getLeaf() instanceof MethodTree method) {
                return method.getReturnType() == null;
            }
        }
        return false;
    }

    private Element methodHere() {
        for (TreePath path = getCurrentPath(); path != null; path = path.getParentPath()) {
            if (path.getLeaf() instanceof MethodTree) {
                return trees.getElement(path);
            }
        }
        return null;
    }

    private void findFace() {
        for (Tree type : unit.getTypeDecls()) {
            for (Tree member : ((ClassTree) type).getMembers()) {
                if (member instanceof MethodTree method && method.getReturnType() != null
                        && method.getModifiers().getFlags().contains(Modifier.PUBLIC)) {
                    face.add(method.getName().toString());
                }
            }
        }
    }

    @Override
    public Void visitImport(ImportTree tree, Void none) {
        must("rule 4: imports", tree, tree.getQualifiedIdentifier().toString().equals("java.util.Arrays"));
        return null;
    }

    @Override
    public Void visitClass(ClassTree tree, Void none) {
        classes++;
        boolean outermost = getCurrentPath().getParentPath().getLeaf() == unit;
        Set<Modifier> flags = tree.getModifiers().getFlags();
        must("rule 2: a class inside is static and not public", tree,
                outermost || flags.contains(Modifier.STATIC) && !flags.contains(Modifier.PUBLIC));
        int fields = 0;
        for (Tree member : tree.getMembers()) {
            must("rule 5: no initialiser block", member, !(member instanceof BlockTree));
            if (member instanceof VariableTree field && !field.getModifiers().getFlags().contains(Modifier.STATIC)) {
                fields++;
            }
        }
        must("rule 11: fields of a class, some twenty", tree, fields <= MOST_FIELDS);
        return super.visitClass(tree, none);
    }

    @Override
    public Void visitMethod(MethodTree tree, Void none) {
        String name = tree.getName().toString();
        boolean isOfFace = tree.getModifiers().getFlags().contains(Modifier.PUBLIC);
        must("rule 1: no other method bears the name of a public one", tree, isOfFace || !face.contains(name));
        must("rule 11: parameters, at most seven", tree, tree.getParameters().size() <= MOST_PARAMETERS);
        must("rule 11: lines of a method, some sixty", tree, linesOf(tree) <= MOST_LINES);
        must("rule 6: no equals, hashCode, toString", tree, !Set.of("equals", "hashCode", "toString").contains(name));
        called.put(trees.getElement(getCurrentPath()), new LinkedHashSet<>());
        return super.visitMethod(tree, none);
    }

    private long linesOf(Tree tree) {
        long from = trees.getSourcePositions().getStartPosition(unit, tree);
        long to = trees.getSourcePositions().getEndPosition(unit, tree);
        return unit.getLineMap().getLineNumber(to) - unit.getLineMap().getLineNumber(Math.max(from, 0)) + 1;
    }

    @Override
    public Void visitVariable(VariableTree tree, Void none) {
        Element variable = trees.getElement(getCurrentPath());
        TypeMirror type = variable.asType();
        must("rule 3: type " + type, tree, isAllowed(type));
        if (variable.getModifiers().contains(Modifier.STATIC)) {
            boolean constant = type.getKind().isPrimitive() || type.toString().equals("java.lang.String");
            must("rule 5: a static field is a constant", tree,
                    constant && variable.getModifiers().contains(Modifier.FINAL) && tree.getInitializer() != null);
        }
        return super.visitVariable(tree, none);
    }

    private static boolean isAllowed(TypeMirror type) {
        if (type.getKind() == TypeKind.ARRAY) {
            TypeMirror part = ((ArrayType) type).getComponentType();
            return part.getKind() != TypeKind.ARRAY && (part.getKind().isPrimitive() || isOwn(part.toString()));
        }
        String name = type.toString();
        boolean number = type.getKind().isPrimitive() && type.getKind() != TypeKind.DOUBLE && type.getKind() != TypeKind.FLOAT;
        return number || isOwn(name) || Set.of("java.lang.String", "java.lang.StringBuilder").contains(name);
    }

    @Override
    public Void visitMethodInvocation(MethodInvocationTree tree, Void none) {
        Element method = element(tree.getMethodSelect());
        String owner = ((TypeElement) method.getEnclosingElement()).getQualifiedName().toString();
        if (isOwn(owner)) {
            called.computeIfAbsent(methodHere(), here -> new LinkedHashSet<>()).add(method);
        } else {
            String name = nameOf((ExecutableElement) method);
            must("rule 4: " + name, tree, LIBRARY.contains(name));
        }
        return super.visitMethodInvocation(tree, none);
    }

    private static String nameOf(ExecutableElement method) {
        // Some methods of StringBuilder are told by the class above it, which bears its name.
        String owner = method.getEnclosingElement().getSimpleName().toString().replace("Abstract", "");
        String name = method.getKind() == ElementKind.CONSTRUCTOR ? owner : method.getSimpleName().toString();
        StringJoiner types = new StringJoiner(",", owner + "." + name + "(", ")");
        for (VariableElement parameter : method.getParameters()) {
            types.add(parameter.asType().toString());
        }
        return types.toString();
    }

    @Override
    public Void visitNewClass(NewClassTree tree, Void none) {
        TypeElement type = (TypeElement) element(tree).getEnclosingElement();
        String name = type.getQualifiedName().toString();
        boolean thrown = getCurrentPath().getParentPath().getLeaf() instanceof ThrowTree;
        must("rule 2: no body at new", tree, tree.getClassBody() == null);
        must("rule 4: new " + name, tree, thrown || isOwn(name) || name.equals("java.lang.StringBuilder"));
        return super.visitNewClass(tree, none);
    }

    @Override
    public Void visitThrow(ThrowTree tree, Void none) {
        boolean good = false;
        if (tree.getExpression() instanceof NewClassTree made) {
            good = EXCEPTIONS.contains(made.getIdentifier().toString()) && made.getArguments().size() <= 1
                    && made.getArguments().stream().allMatch(text -> text instanceof LiteralTree);
        }
        must("rule 6: throw new E() or E(\"a written text\")", tree, good);
        must("rule 6: no throw in a constructor", tree, !isInConstructor());
        return super.visitThrow(tree, none);
    }

    @Override
    public Void visitForLoop(ForLoopTree tree, Void none) {
        must("rule 9: a loop has an end", tree, tree.getCondition() != null);
        return super.visitForLoop(tree, none);
    }

    @Override
    public Void visitBinary(BinaryTree tree, Void none) {
        boolean texts = isText(tree.getLeftOperand()) || isText(tree.getRightOperand());
        must("rules 6, 10: no text joined or compared by a sign", tree, !texts);
        boolean divides = tree.getKind() == Tree.Kind.DIVIDE || tree.getKind() == Tree.Kind.REMAINDER;
        must("rule 7: the class does without divisors", tree, !divides);
        return super.visitBinary(tree, none);
    }

    private boolean isText(Tree tree) {
        TypeMirror type = trees.getTypeMirror(new TreePath(getCurrentPath(), tree));
        return type != null && type.toString().equals("java.lang.String");
    }

    @Override
    public Void visitTypeCast(TypeCastTree tree, Void none) {
        TypeMirror type = trees.getTypeMirror(new TreePath(getCurrentPath(), tree.getType()));
        must("rule 6: casts among numbers alone", tree, type.getKind().isPrimitive());
        return super.visitTypeCast(tree, none);
    }

    @Override
    public Void visitTry(TryTree tree, Void none) {
        wrong("rule 6: the class does without try", tree);
        return null;
    }

    @Override
    public Void visitLambdaExpression(LambdaExpressionTree tree, Void none) {
        wrong("rule 2: no lambda", tree);
        return null;
    }

    @Override
    public Void visitMemberReference(MemberReferenceTree tree, Void none) {
        wrong("rule 2: no method reference", tree);
        return null;
    }

    @Override
    public Void visitAssert(AssertTree tree, Void none) {
        wrong("rule 6: no assert", tree);
        return null;
    }

    @Override
    public Void visitSynchronized(SynchronizedTree tree, Void none) {
        wrong("rule 6: no synchronized", tree);
        return null;
    }

    /** Methods that call one another are one level here, as rule 11 speaks of calls that are no recursion. */
    private void lookAtDepth() {
        Map<Element, Set<Element>> reached = new HashMap<>();
        for (Element method : called.keySet()) {
            reached.put(method, reachedFrom(method));
        }
        Map<Element, Integer> depths = new HashMap<>();
        for (Element method : called.keySet()) {
            int depth = depth(method, reached, depths);
            Check.is("rule 11: calls open at once from " + method + " on, at most eight", depth <= MOST_DEPTH ? 1 : 0, 1);
        }
    }

    private Set<Element> reachedFrom(Element start) {
        Set<Element> all = new HashSet<>();
        Deque<Element> waiting = new ArrayDeque<>(called.get(start));
        while (!waiting.isEmpty()) {
            Element next = waiting.pop();
            if (all.add(next)) {
                waiting.addAll(called.getOrDefault(next, Set.of()));
            }
        }
        return all;
    }

    private int depth(Element method, Map<Element, Set<Element>> reached, Map<Element, Integer> known) {
        Integer before = known.get(method);
        if (before != null) {
            return before;
        }
        int below = 0;
        for (Element next : reached.get(method)) {
            boolean again = reached.containsKey(next) && reached.get(next).contains(method);
            if (!again && reached.containsKey(next)) {
                below = Math.max(below, depth(next, reached, known));
            }
        }
        known.put(method, below + 1);
        return below + 1;
    }
}
