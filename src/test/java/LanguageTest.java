import com.sun.source.tree.AssertTree;
import com.sun.source.tree.BinaryTree;
import com.sun.source.tree.BlockTree;
import com.sun.source.tree.ClassTree;
import com.sun.source.tree.CompilationUnitTree;
import com.sun.source.tree.CompoundAssignmentTree;
import com.sun.source.tree.DoWhileLoopTree;
import com.sun.source.tree.ExpressionTree;
import com.sun.source.tree.ForLoopTree;
import com.sun.source.tree.ImportTree;
import com.sun.source.tree.LambdaExpressionTree;
import com.sun.source.tree.LiteralTree;
import com.sun.source.tree.MemberReferenceTree;
import com.sun.source.tree.MemberSelectTree;
import com.sun.source.tree.MethodInvocationTree;
import com.sun.source.tree.MethodTree;
import com.sun.source.tree.NewArrayTree;
import com.sun.source.tree.NewClassTree;
import com.sun.source.tree.ParenthesizedTree;
import com.sun.source.tree.SynchronizedTree;
import com.sun.source.tree.ThrowTree;
import com.sun.source.tree.Tree;
import com.sun.source.tree.TryTree;
import com.sun.source.tree.TypeCastTree;
import com.sun.source.tree.VariableTree;
import com.sun.source.tree.WhileLoopTree;
import com.sun.source.util.JavacTask;
import com.sun.source.util.SourcePositions;
import com.sun.source.util.TreePath;
import com.sun.source.util.TreePathScanner;
import com.sun.source.util.Trees;
import java.io.IOException;
import java.net.URI;
import java.nio.file.Files;
import java.nio.file.Path;
import java.util.ArrayList;
import java.util.HashSet;
import java.util.LinkedHashMap;
import java.util.LinkedHashSet;
import java.util.List;
import java.util.Map;
import java.util.Set;
import javax.lang.model.element.Element;
import javax.lang.model.element.ElementKind;
import javax.lang.model.element.ExecutableElement;
import javax.lang.model.element.Modifier;
import javax.lang.model.element.TypeElement;
import javax.lang.model.element.VariableElement;
import javax.lang.model.type.ArrayType;
import javax.lang.model.type.DeclaredType;
import javax.lang.model.type.TypeKind;
import javax.lang.model.type.TypeMirror;
import javax.tools.JavaFileObject;
import javax.tools.SimpleJavaFileObject;
import javax.tools.ToolProvider;

/**
 * What can be seen of ../shared/LANGUAGE.md in the source, with the compiler's
 * own tree of it. Not seen are rules 7 and 9 (beyond a loop without a condition)
 * and which object an answer depends on; recursion, which rule 8 allows within
 * limits, and objects made outside constructors, which rule 12 counts, are
 * refused here altogether, because the class does without them.
 *
 * Behind the class come small sources that each break a rule: the test must
 * notice them.
 */
public final class LanguageTest {
    private static final Path SOURCE = Path.of("src/main/java/SplicedChain.java");

    private static final Set<String> IMPORTS = Set.of("java.util.NoSuchElementException",
            "java.util.ArrayList", "java.util.List", "java.util.Arrays", "java.util.Iterator");
    private static final Set<String> EXCEPTIONS = Set.of("IllegalStateException",
            "IllegalArgumentException", "IndexOutOfBoundsException", "ArithmeticException",
            "UnsupportedOperationException", "NoSuchElementException", "RuntimeException");
    private static final Set<String> LIBRARY_TYPES = Set.of("java.lang.String", "java.lang.StringBuilder",
            "java.lang.Integer", "java.util.ArrayList", "java.util.List", "java.util.Iterator",
            "java.lang.Iterable", "java.lang.Comparable");
    private static final Map<String, Set<String>> LIBRARY_CALLS = Map.of(
            "java.lang.String", Set.of("length", "charAt", "isEmpty", "equals", "indexOf", "substring",
                    "toCharArray"),
            "java.lang.StringBuilder", Set.of("append", "charAt", "setCharAt", "setLength",
                    "deleteCharAt", "reverse", "length", "toString"),
            "java.util.ArrayList", Set.of("add", "get", "set", "remove", "size", "isEmpty", "clear"),
            "java.util.List", Set.of("add", "get", "set", "remove", "size", "isEmpty", "clear", "of"),
            "java.lang.Integer", Set.of("compare", "max", "min", "abs", "bitCount"),
            "java.lang.Long", Set.of("compare", "max", "min", "abs", "bitCount"),
            "java.lang.Math", Set.of("max", "min", "abs", "floorDiv", "floorMod"),
            "java.lang.System", Set.of("arraycopy"),
            "java.util.Arrays", Set.of("copyOf", "copyOfRange", "fill"));
    private static final Set<String> STATIC_TYPES = Set.of("int", "long", "boolean", "char",
            "java.lang.String", "int[]", "long[]", "char[]", "byte[]");

    private static final int MOST_PARAMETERS = 7;
    private static final int MOST_LINES = 60;
    private static final int MOST_DEPTH = 8;
    private static final int MOST_CLASSES = 12;
    private static final int MOST_FIELDS = 20;

    private static final class Source extends SimpleJavaFileObject {
        private final String text;

        Source(String text) {
            super(URI.create("string:///SplicedChain.java"), JavaFileObject.Kind.SOURCE);
            this.text = text;
        }

        @Override
        public CharSequence getCharContent(boolean ignoreEncodingErrors) {
            return text;
        }
    }

    private static final class Reader extends TreePathScanner<Void, Void> {
        final Set<String> faults = new LinkedHashSet<>();
        private final Trees trees;
        private final CompilationUnitTree unit;
        private final Map<String, Set<String>> callsOf = new LinkedHashMap<>();
        private final Set<MethodTree> throwing = new HashSet<>();
        private final Set<MethodTree> trying = new HashSet<>();
        private int classes = 0;

        Reader(Trees trees, CompilationUnitTree unit) {
            this.trees = trees;
            this.unit = unit;
        }

        void read() {
            if (unit.getPackage() != null || unit.getTypeDecls().size() != 1) {
                faults.add("rule 0: one class without a package is due");
            }
            scan(unit, null);
            if (classes > MOST_CLASSES) {
                fault(11, unit, "too many classes: " + classes);
            }
            for (String method : callsOf.keySet()) {
                depth(method, new ArrayList<>());
            }
        }

        private void fault(int rule, Tree tree, String text) {
            faults.add("rule " + rule + ": line " + line(tree, false) + ": " + text);
        }

        private long line(Tree tree, boolean end) {
            SourcePositions positions = trees.getSourcePositions();
            long at = end ? positions.getEndPosition(unit, tree) : positions.getStartPosition(unit, tree);
            return at < 0 ? 0 : unit.getLineMap().getLineNumber(at);
        }

        private Element element() {
            return trees.getElement(getCurrentPath());
        }

        private TypeMirror typeOf(Tree tree) {
            return trees.getTypeMirror(new TreePath(getCurrentPath(), tree));
        }

        private boolean isText(Tree tree) {
            return "java.lang.String".equals(String.valueOf(typeOf(tree)));
        }

        private boolean isOwn(Element element) {
            Element at = element;
            while (at != null && at.getKind() != ElementKind.PACKAGE) {
                if (at.getSimpleName().contentEquals("SplicedChain")) {
                    return true;
                }
                at = at.getEnclosingElement();
            }
            return false;
        }

        private boolean isLibraryType(Element element) {
            return element instanceof TypeElement type
                    && LIBRARY_TYPES.contains(type.getQualifiedName().toString());
        }

        private Tree parent() {
            return getCurrentPath().getParentPath().getLeaf();
        }

        private MethodTree enclosingMethod() {
            for (Tree tree : getCurrentPath()) {
                if (tree instanceof MethodTree method) {
                    return method;
                }
                if (tree instanceof ClassTree) {
                    return null;
                }
            }
            return null;
        }

        private static boolean isConstructor(MethodTree method) {
            return method.getName().contentEquals("<init>");
        }

        private static ExpressionTree bare(ExpressionTree tree) {
            ExpressionTree at = tree;
            while (at instanceof ParenthesizedTree inner) {
                at = inner.getExpression();
            }
            return at;
        }

        @Override
        public Void visitImport(ImportTree tree, Void none) {
            if (tree.isStatic() || !IMPORTS.contains(tree.getQualifiedIdentifier().toString())) {
                fault(4, tree, "import of " + tree.getQualifiedIdentifier());
            }
            return null;
        }

        @Override
        public Void visitClass(ClassTree tree, Void none) {
            classes++;
            Set<Modifier> flags = tree.getModifiers().getFlags();
            boolean top = parent() == unit;
            if (top && !flags.equals(Set.of(Modifier.PUBLIC, Modifier.FINAL))) {
                fault(1, tree, "the class is public and final");
            }
            if (top) {
                lookAtFace(tree);
            } else if (parent() instanceof ClassTree) {
                boolean named = tree.getKind() != Tree.Kind.CLASS || flags.contains(Modifier.STATIC);
                if (!named || flags.contains(Modifier.PUBLIC) || flags.contains(Modifier.PROTECTED)) {
                    fault(1, tree, "a class inside is static, and private or package-visible");
                }
            }
            if (tree.getExtendsClause() != null && !isOwn(elementOf(tree.getExtendsClause()))) {
                fault(6, tree, "a class of the library is extended");
            }
            int fields = 0;
            for (Tree member : tree.getMembers()) {
                boolean field = member instanceof VariableTree variable
                        && !variable.getModifiers().getFlags().contains(Modifier.STATIC);
                fields += field ? 1 : 0;
            }
            if (fields > MOST_FIELDS) {
                fault(11, tree, "too many fields: " + fields);
            }
            return super.visitClass(tree, none);
        }

        private Element elementOf(Tree tree) {
            return trees.getElement(new TreePath(getCurrentPath(), tree));
        }

        private void lookAtFace(ClassTree tree) {
            Set<String> open = new HashSet<>();
            Set<String> closed = new HashSet<>();
            for (Tree member : tree.getMembers()) {
                Set<Modifier> flags = member instanceof MethodTree method ? method.getModifiers().getFlags()
                        : member instanceof VariableTree variable ? variable.getModifiers().getFlags() : null;
                if (flags == null) {
                    continue;
                }
                if (!flags.contains(Modifier.PUBLIC) && !flags.contains(Modifier.PRIVATE)) {
                    fault(1, member, "a member is neither public nor private");
                }
                if (member instanceof MethodTree method) {
                    (flags.contains(Modifier.PUBLIC) ? open : closed).add(method.getName().toString());
                }
            }
            closed.retainAll(open);
            for (String name : closed) {
                fault(1, tree, "a private method bears the public name " + name);
            }
        }

        @Override
        public Void visitVariable(VariableTree tree, Void none) {
            VariableElement variable = (VariableElement) element();
            TypeMirror type = variable.asType();
            lookAtType(tree, type);
            Set<Modifier> flags = variable.getModifiers();
            boolean constantOfEnum = variable.getKind() == ElementKind.ENUM_CONSTANT;
            if (flags.contains(Modifier.STATIC) && !constantOfEnum) {
                if (!flags.contains(Modifier.FINAL)) {
                    fault(5, tree, "a static field that is not final: " + tree.getName());
                }
                if (!STATIC_TYPES.contains(type.toString()) && !isOwnEnum(type)) {
                    fault(5, tree, "a static field of type " + type);
                }
            }
            return super.visitVariable(tree, none);
        }

        private boolean isOwnEnum(TypeMirror type) {
            TypeMirror inner = type instanceof ArrayType array ? array.getComponentType() : type;
            return inner instanceof DeclaredType declared && isOwn(declared.asElement())
                    && declared.asElement().getKind() == ElementKind.ENUM;
        }

        private void lookAtType(Tree tree, TypeMirror type) {
            if (type instanceof ArrayType array) {
                TypeMirror of = array.getComponentType();
                if (of instanceof ArrayType second && !second.getComponentType().getKind().isPrimitive()) {
                    fault(3, tree, "an array of more dimensions than are allowed: " + type);
                }
                lookAtType(tree, of);
            } else if (type instanceof DeclaredType declared) {
                boolean exception = EXCEPTIONS.contains(declared.asElement().getSimpleName().toString());
                if (!isOwn(declared.asElement()) && !isLibraryType(declared.asElement()) && !exception) {
                    fault(3, tree, "a type that is not listed: " + type);
                }
                for (TypeMirror argument : declared.getTypeArguments()) {
                    lookAtType(tree, argument);
                }
            }
        }

        @Override
        public Void visitMethod(MethodTree tree, Void none) {
            ExecutableElement method = (ExecutableElement) element();
            callsOf.putIfAbsent(nameOf(method), new LinkedHashSet<>());
            if (method.getReturnType().getKind() != TypeKind.VOID) {
                lookAtType(tree, method.getReturnType());
            }
            if (tree.getParameters().size() > MOST_PARAMETERS) {
                fault(11, tree, "too many parameters");
            }
            if (line(tree, true) - line(tree, false) + 1 > MOST_LINES) {
                fault(11, tree, "a method of more than " + MOST_LINES + " lines");
            }
            if (Set.of("equals", "hashCode", "toString").contains(tree.getName().toString())) {
                fault(6, tree, "a method " + tree.getName());
            }
            if (tree.getModifiers().getFlags().contains(Modifier.SYNCHRONIZED)) {
                fault(6, tree, "synchronized");
            }
            return super.visitMethod(tree, none);
        }

        private static String nameOf(ExecutableElement method) {
            return method.getEnclosingElement() + "." + method;
        }

        @Override
        public Void visitBlock(BlockTree tree, Void none) {
            if (parent() instanceof ClassTree && tree.isStatic()) {
                fault(5, tree, "a static initialiser block");
            }
            return super.visitBlock(tree, none);
        }

        @Override
        public Void visitMethodInvocation(MethodInvocationTree tree, Void none) {
            ExecutableElement called = (ExecutableElement) element();
            TypeElement owner = (TypeElement) called.getEnclosingElement();
            String type = owner.getQualifiedName().toString();
            String name = called.getSimpleName().toString();
            if (isOwn(called)) {
                noteCall(called);
            } else if (!name.equals("<init>") && !isAllowed(tree, type, name)) {
                fault(4, tree, "a call that is not listed: " + type + "." + name);
            }
            if (Set.of("java.lang.Math", "java.lang.Integer", "java.lang.Long").contains(type)) {
                for (VariableElement parameter : called.getParameters()) {
                    if (!Set.of(TypeKind.INT, TypeKind.LONG).contains(parameter.asType().getKind())) {
                        fault(3, tree, type + "." + name + " over other than int and long");
                    }
                }
            }
            return super.visitMethodInvocation(tree, none);
        }

        private boolean isAllowed(MethodInvocationTree tree, String type, String name) {
            boolean cloneOfArray = name.equals("clone") && tree.getMethodSelect() instanceof MemberSelectTree select
                    && trees.getTypeMirror(TreePath.getPath(getCurrentPath(), select.getExpression()))
                            instanceof ArrayType;
            boolean ofEnum = type.equals("java.lang.Enum") && name.equals("ordinal");
            return cloneOfArray || ofEnum || LIBRARY_CALLS.getOrDefault(type, Set.of()).contains(name);
        }

        private void noteCall(ExecutableElement called) {
            MethodTree from = enclosingMethod();
            if (from != null) {
                for (TreePath path = getCurrentPath(); path != null; path = path.getParentPath()) {
                    if (path.getLeaf() == from) {
                        String name = nameOf((ExecutableElement) trees.getElement(path));
                        callsOf.computeIfAbsent(name, n -> new LinkedHashSet<>()).add(nameOf(called));
                    }
                }
            }
        }

        private int depth(String method, List<String> open) {
            if (open.contains(method)) {
                faults.add("rule 8: recursion through " + method);
                return 0;
            }
            open.add(method);
            int deepest = 0;
            for (String called : callsOf.getOrDefault(method, Set.of())) {
                deepest = Math.max(deepest, depth(called, open));
            }
            open.remove(method);
            if (deepest + 1 > MOST_DEPTH) {
                faults.add("rule 11: calls go too deep from " + method);
            }
            return deepest + 1;
        }

        @Override
        public Void visitNewClass(NewClassTree tree, Void none) {
            Element type = elementOf(tree.getIdentifier());
            boolean thrown = parent() instanceof ThrowTree;
            if (!thrown && !isOwn(type) && !isLibraryType(type)) {
                fault(4, tree, "new " + tree.getIdentifier());
            }
            if (!thrown) {
                lookAtPlaceOfNew(tree);
            }
            return super.visitNewClass(tree, none);
        }

        @Override
        public Void visitNewArray(NewArrayTree tree, Void none) {
            lookAtPlaceOfNew(tree);
            return super.visitNewArray(tree, none);
        }

        private void lookAtPlaceOfNew(Tree tree) {
            MethodTree method = enclosingMethod();
            if (method != null && !isConstructor(method)) {
                fault(12, tree, "an object is made outside a constructor");
            }
        }

        @Override
        public Void visitThrow(ThrowTree tree, Void none) {
            boolean written = bare(tree.getExpression()) instanceof NewClassTree made
                    && EXCEPTIONS.contains(made.getIdentifier().toString())
                    && made.getClassBody() == null && made.getArguments().size() <= 1
                    && made.getArguments().stream().allMatch(a -> a.getKind() == Tree.Kind.STRING_LITERAL);
            if (!written) {
                fault(6, tree, "a throw of another form");
            }
            MethodTree method = enclosingMethod();
            if (method == null || isConstructor(method)) {
                fault(6, tree, "a throw in a constructor");
            }
            throwing.add(method);
            lookAtBoth(tree, method);
            return super.visitThrow(tree, none);
        }

        @Override
        public Void visitTry(TryTree tree, Void none) {
            if (tree.getFinallyBlock() != null || !tree.getResources().isEmpty()) {
                fault(6, tree, "finally or try with resources");
            }
            trying.add(enclosingMethod());
            lookAtBoth(tree, enclosingMethod());
            return super.visitTry(tree, none);
        }

        private void lookAtBoth(Tree tree, MethodTree method) {
            if (throwing.contains(method) && trying.contains(method)) {
                fault(6, tree, "a try in the method that holds a throw");
            }
        }

        @Override
        public Void visitSynchronized(SynchronizedTree tree, Void none) {
            fault(6, tree, "synchronized");
            return super.visitSynchronized(tree, none);
        }

        @Override
        public Void visitAssert(AssertTree tree, Void none) {
            fault(6, tree, "assert");
            return super.visitAssert(tree, none);
        }

        @Override
        public Void visitLambdaExpression(LambdaExpressionTree tree, Void none) {
            fault(2, tree, "a lambda");
            return super.visitLambdaExpression(tree, none);
        }

        @Override
        public Void visitMemberReference(MemberReferenceTree tree, Void none) {
            fault(2, tree, "a method reference");
            return super.visitMemberReference(tree, none);
        }

        @Override
        public Void visitMemberSelect(MemberSelectTree tree, Void none) {
            Element selected = element();
            boolean lengthOfArray = tree.getIdentifier().contentEquals("length");
            if (selected instanceof VariableElement && !isOwn(selected) && !lengthOfArray
                    && !tree.getIdentifier().contentEquals("this")) {
                fault(4, tree, "a field of the library: " + tree);
            }
            return super.visitMemberSelect(tree, none);
        }

        @Override
        public Void visitTypeCast(TypeCastTree tree, Void none) {
            if (!typeOf(tree.getType()).getKind().isPrimitive()) {
                fault(6, tree, "a cast to a class: look whether a test makes it safe");
            }
            return super.visitTypeCast(tree, none);
        }

        @Override
        public Void visitBinary(BinaryTree tree, Void none) {
            boolean text = isText(tree.getLeftOperand()) || isText(tree.getRightOperand());
            if (text && tree.getKind() == Tree.Kind.PLUS) {
                fault(10, tree, "texts joined by +");
            }
            boolean same = tree.getKind() == Tree.Kind.EQUAL_TO || tree.getKind() == Tree.Kind.NOT_EQUAL_TO;
            if (same && isText(tree.getLeftOperand()) && isText(tree.getRightOperand())) {
                fault(6, tree, "== between texts");
            }
            return super.visitBinary(tree, none);
        }

        @Override
        public Void visitCompoundAssignment(CompoundAssignmentTree tree, Void none) {
            if (isText(tree.getVariable())) {
                fault(10, tree, "texts joined by +=");
            }
            return super.visitCompoundAssignment(tree, none);
        }

        @Override
        public Void visitLiteral(LiteralTree tree, Void none) {
            if (tree.getValue() instanceof String text
                    && !text.chars().allMatch(sign -> sign >= 1 && sign <= 127)) {
                fault(4, tree, "a text with other signs than 1 to 127");
            }
            return super.visitLiteral(tree, none);
        }

        @Override
        public Void visitForLoop(ForLoopTree tree, Void none) {
            lookAtEnd(tree, tree.getCondition());
            return super.visitForLoop(tree, none);
        }

        @Override
        public Void visitWhileLoop(WhileLoopTree tree, Void none) {
            lookAtEnd(tree, tree.getCondition());
            return super.visitWhileLoop(tree, none);
        }

        @Override
        public Void visitDoWhileLoop(DoWhileLoopTree tree, Void none) {
            lookAtEnd(tree, tree.getCondition());
            return super.visitDoWhileLoop(tree, none);
        }

        private void lookAtEnd(Tree loop, ExpressionTree condition) {
            if (condition == null || bare(condition) instanceof LiteralTree) {
                fault(9, loop, "a loop without a condition");
            }
        }
    }

    private static Set<String> faultsOf(String text) throws IOException {
        JavacTask task = (JavacTask) ToolProvider.getSystemJavaCompiler().getTask(null, null, null,
                List.of("--release", "17", "-proc:none"), null, List.of(new Source(text)));
        CompilationUnitTree unit = task.parse().iterator().next();
        task.analyze();
        Reader reader = new Reader(Trees.instance(task), unit);
        reader.read();
        return reader.faults;
    }

    private static String inside(String members) {
        return "import java.util.NoSuchElementException; public final class SplicedChain { " + members + " }";
    }

    /** A rule's number, and a source that breaks it. */
    private static final String[][] BREACHES = {
        {"0", "package p; public final class SplicedChain { }"},
        {"0", "public final class SplicedChain { } class Other { }"},
        {"1", "public class SplicedChain { }"},
        {"1", inside("int seen;")},
        {"1", inside("void seen() { }")},
        {"1", inside("public int a() { return a(1); } private int a(int b) { return b; }")},
        {"1", inside("public static class Seen { }")},
        {"1", inside("private class Bound { }")},
        {"2", inside("private Runnable r = () -> { };")},
        {"2", inside("private Runnable r = SplicedChain::a; private static void a() { }")},
        {"3", inside("private Long l;")},
        {"3", inside("private int[][][] rows;")},
        {"3", inside("private String[][] rows;")},
        {"3", inside("private java.util.Map<Integer, Integer> map;")},
        {"3", inside("private java.util.List<String> list; private java.util.List<Long> longs;")},
        {"3", inside("private double a(double b) { return Math.max(b, 1.0); }")},
        {"4", "import java.util.HashMap; public final class SplicedChain { }"},
        {"4", inside("private int a() { return Math.addExact(1, 2); }")},
        {"4", inside("private void a() { System.out.println(); }")},
        {"4", inside("private int a = Integer.MAX_VALUE;")},
        {"4", inside("private String a = \"\\u00e9\";")},
        {"4", inside("private Object o = new Object();")},
        {"5", inside("private static int count = 0;")},
        {"5", inside("private static final StringBuilder S = new StringBuilder();")},
        {"5", inside("static { }")},
        {"6", inside("private void a() { throw new Error(); }")},
        {"6", inside("private void a(String s) { throw new RuntimeException(s); }")},
        {"6", inside("public SplicedChain() { throw new RuntimeException(); }")},
        {"6", inside("private void a() { try { b(); } finally { b(); } } private void b() { }")},
        {"6", inside("private void a() { try { throw new RuntimeException(); } catch (RuntimeException e) { } }")},
        {"6", inside("private void a() { try { b(); } catch (RuntimeException e) { b(); }"
                + " throw new RuntimeException(); } private void b() { }")},
        {"6", inside("private void a() { assert true; }")},
        {"6", inside("private void a() { synchronized (this) { } }")},
        {"6", inside("private static final class E extends RuntimeException { }")},
        {"6", inside("private boolean a(String s, String t) { return s == t; }")},
        {"8", inside("private int a(int n) { return n == 0 ? 0 : a(n - 1); }")},
        {"8", inside("private void a() { b(); } private void b() { a(); }")},
        {"9", inside("private void a() { while (true) { } }")},
        {"9", inside("private void a() { for (;;) { } }")},
        {"10", inside("private String a(String s) { return s + s; }")},
        {"10", inside("private String a(String s) { s += 1; return s; }")},
        {"11", inside("private void a(int a, int b, int c, int d, int e, int f, int g, int h) { }")},
        {"11", inside("private void a() { " + "\n".repeat(60) + " }")},
        {"11", inside("int a, b, c, d, e, f, g, h, i, j, k, l, m, n, o, p, q, r, s, t, u;")},
        {"11", inside("private void a() { b(); } private void b() { c(); } private void c() { d(); }"
                + " private void d() { e(); } private void e() { f(); } private void f() { g(); }"
                + " private void g() { h(); } private void h() { i(); } private void i() { }")},
        {"11", inside("static class A { } static class B { } static class C { } static class D { }"
                + " static class E { } static class F { } static class G { } static class H { }"
                + " static class I { } static class J { } static class K { } static class L { }")},
        {"12", inside("private int[] a() { return new int[3]; }")},
        {"12", inside("private StringBuilder a() { return new StringBuilder(); }")},
        {"13", inside("private long a() { return System.nanoTime(); }")},
    };

    /** A clock is a call that rule 4 does not list. */
    private static String seenAs(String rule) {
        return rule.equals("13") ? "4" : rule;
    }

    public static void main(String[] args) throws IOException {
        Set<String> faults = faultsOf(Files.readString(SOURCE));
        faults.forEach(System.out::println);
        int unseen = 0;
        for (String[] breach : BREACHES) {
            Set<String> found = faultsOf(breach[1]);
            String start = "rule " + seenAs(breach[0]) + ":";
            if (found.stream().noneMatch(fault -> fault.startsWith(start))) {
                unseen++;
                System.out.println("rule " + breach[0] + " is broken unseen by " + breach[1] + ", seen is " + found);
            }
        }
        System.out.println(faults.isEmpty() && unseen == 0 ? "no breach of the rules that can be seen"
                : faults.size() + " breaches, and " + unseen + " that the test does not see");
        if (!faults.isEmpty() || unseen != 0) {
            System.exit(1);
        }
    }
}
