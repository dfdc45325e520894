import com.sun.source.tree.*;
import com.sun.source.util.JavacTask;
import com.sun.source.util.SourcePositions;
import com.sun.source.util.TreePath;
import com.sun.source.util.TreePathScanner;
import com.sun.source.util.TreeScanner;
import com.sun.source.util.Trees;
import java.io.IOException;
import java.net.URI;
import java.nio.charset.StandardCharsets;
import java.nio.file.Files;
import java.nio.file.Path;
import java.util.ArrayList;
import java.util.Arrays;
import java.util.HashMap;
import java.util.HashSet;
import java.util.List;
import java.util.Map;
import java.util.Set;
import java.util.TreeSet;
import java.util.function.Predicate;
import javax.lang.model.element.Element;
import javax.lang.model.element.ElementKind;
import javax.lang.model.element.ExecutableElement;
import javax.lang.model.element.Modifier;
import javax.lang.model.element.TypeElement;
import javax.lang.model.element.VariableElement;
import javax.lang.model.type.ArrayType;
import javax.lang.model.type.TypeKind;
import javax.lang.model.type.TypeMirror;
import javax.tools.Diagnostic;
import javax.tools.DiagnosticCollector;
import javax.tools.JavaCompiler;
import javax.tools.JavaFileObject;
import javax.tools.SimpleJavaFileObject;
import javax.tools.StandardJavaFileManager;
import javax.tools.ToolProvider;

/**
 * src/main/java/RoadsNotGoneBy.java keeps the rules of ../shared/LANGUAGE.md: its tree is gone through, rule by rule.
 * Where a rule can't be read off a tree as it is told, a narrower one is asked that this class can do with (no exception at all,
 * no object made by a call, every index behind a condition that names it). Behind that the class is broken in one place at a time,
 * rule by rule, and each break must be found.
 */
public final class LanguageTest {
    private static final Path CLASS = Path.of("src/main/java/RoadsNotGoneBy.java");
    private static final Path DOCUMENT = Path.of("../shared/DOC.md");

    private static int wrong = 0;

    public static void main(String[] args) throws IOException {
        String source = Files.readString(CLASS, StandardCharsets.ISO_8859_1);
        String document = Files.readString(DOCUMENT, StandardCharsets.UTF_8);
        due("one file alone", Files.list(CLASS.getParent()).count() == 1);
        for (String fault : new Check(source, document).faults()) {
            due(fault, false);
        }
        int breaks = breaks(source, document);
        System.out.println(wrong == 0 ? "the class keeps the rules; " + breaks + " breaks were found" : wrong + " things are not as due");
        if (wrong != 0) {
            System.exit(1);
        }
    }

    private static void due(String what, boolean holds) {
        if (!holds) {
            wrong++;
            System.out.println(what);
        }
    }

    // ---- the class, broken

    private static int breaks(String source, String document) {
        String here = "    // ---- crossings, jars, lives\n";
        String[][] members = {
            {"1", "int open;"}, {"1", "protected int open() { return 1; }"}, {"1", "public int more() { return 1; }"}, {"1", "public static class More { }"},
            {"1", "private final class More { }"}, {"1", "private int year(int n) { return n; }"}, {"1", "public static final int MORE = 1;"},
            {"1", "private static final class More { int year() { return 1; } }"},
            {"2", "private int more() { class Here { } return 1; }"}, {"2", "private void more(Runnable r) { more(() -> { }); }"},
            {"3", "private double more() { return 1; }"}, {"3", "private Object more() { return null; }"}, {"3", "private int[][][] more = null;"},
            {"3", "private Integer more = null;"}, {"3", "private String[] more = null;"}, {"3", "private Sheet[][] more = null;"},
            {"4", "private String more() { return String.valueOf(1); }"}, {"4", "private int more() { return Integer.MAX_VALUE; }"},
            {"4", "private int more() { return Math.addExact(1, 2); }"}, {"4", "private double more = Math.random();"},
            {"4", "private static final String MORE = \"\\u00e9\";"}, {"4", "private int more() { return System.identityHashCode(this); }"},
            {"5", "private static int more = 1;"}, {"5", "private static final Sheet MORE = null;"}, {"5", "static { }"},
            {"5", "private static final int[] MORE = new int[3];"}, {"5", "private static final int[] MORE = {1}; private void more() { putItem(MORE, 0, 2); }"},
            {"5", "private static final int[] MORE = {1}; private void more() { for (int i = 0; i < MORE.length; i++) { MORE[i] = 2; } }"},
            {"5", "private static final int[] MORE = {1}; private void more() { fill(MORE, 2); }"},
            {"6", "private void more() { throw new IllegalStateException(); }"}, {"6", "private void more() { try { text(); } catch (RuntimeException e) { } }"},
            {"6", "private void more() { try { text(); } finally { } }"}, {"6", "private synchronized void more() { }"},
            {"6", "private void more() { synchronized (this) { } }"}, {"6", "private void more() { assert true; }"},
            {"6", "private boolean more(String a, String b) { return a == b; }"}, {"6", "public String toString() { return null; }"},
            {"6", "private Sheet more(Sheet s) { return (Sheet) s; }"},
            {"7", "private int more(int[] row, int i) { return row[i]; }"}, {"7", "private int more(int[] row, int i) { return i < row.length ? row[i] : 0; }"},
            {"7", "private int more(int[] row, int i) { return i >= 0 && i <= row.length ? row[i] : 0; }"},
            {"7", "private int more(int[] row, int i) { if (i >= 0 && i < row.length) { i++; return row[i]; } return 0; }"},
            {"7", "private int more(int[] row, int i) { if (i >= 0 && i < row.length) { while (i < 90) { putItem(row, row[i], 1); i++; } } return 0; }"},
            {"7", "private int more(int[] row, int i) { return within(i, row.length) ? 0 : row[i]; }"},
            {"7", "private int more(int[] row, int[] other, int i) { return within(i, row.length) ? other[i] : 0; }"},
            {"7", "private int more(int a, int b) { return a / b; }"}, {"7", "private int more(int a, int b) { a %= b; return a; }"},
            {"7", "private int more(int a, int b) { return b != 0 || a > 0 ? a / b : 0; }"}, {"7", "private int more(int a) { return a % (1 - 1); }"},
            {"7", "private int more(int i) { return sheetOf(i).size; }"}, {"7", "private int more(int i) { Sheet s = sheetOf(i); return s.size; }"},
            {"7", "private int more(int i) { Sheet s = sheetOf(i); if (s == null) { text(); } return s.size; }"},
            {"7", "private int more(int i) { return within(i, sheets.length) ? sheets[i].size : 0; }"},
            {"7", "private boolean more(int i) { Sheet s = sheetOf(i); return s.size > 0 && s != null; }"},
            {"7", "private int more(Sheet s) { return item(s.items, 0); } private int more(int i) { return more(sheetOf(i)); }"},
            {"7", "private int more() { int[] row = rowOf(9); return item(row, 0); }"}, {"7", "private Sheet more = null;"},
            {"7", "private int more(String s, int i) { return s.charAt(i); }"},
            {"7", "private void more(int n) { System.arraycopy(costs, 0, costsThen, 0, n); }"}, {"7", "private int[] more(int n) { return new int[n]; }"},
            {"8", "private int more(int n) { return n < 1 ? 0 : more(n - 1); }"}, {"8", "private int more(int n) { return more(n + 1); }"},
            {"8", "private int more(int n) { return n < 9 ? more(n) : 0; }"}, {"8", "private int more(int n) { return less(n); } private int less(int n) { return more(n); }"},
            {"9", "private void more() { while (true) { text(); } }"}, {"9", "private void more() { for (;;) { text(); } }"},
            {"9", "private void more() { for (int i = 0; i != 9; i++) { text(); } }"}, {"9", "private void more() { for (int i = 0; i < 9; i++) { i--; } }"},
            {"9", "private void more() { for (int i = 0; i < 9; i--) { text(); } }"}, {"9", "private void more(int n) { while (n < 9) { if (text() > 0) { n++; } } }"},
            {"9", "private void more(int n) { for (int i = 0; i < n; i++) { n++; } }"}, {"9", "private void more(int n) { do { text(); } while (n > 0); }"},
            {"9", "private void more(int n) { while (n < 9 || n > 20) { n++; } }"},
            {"10", "private String more(String s) { return s + 1; }"}, {"10", "private String more(String s) { s += 1; return s; }"},
            {"10", "private int more(String s) { switch (s) { default: return 1; } }"},
            {"11", "private int more(int a, int b, int c, int d, int e, int f, int g, int h) { return 1; }"},
            {"11", "private void more() {" + "text();\n".repeat(70) + "}"},
            {"11", "private int " + "x, y".repeat(1) + ", a, b, c, d, e, f, g, h, i, j;"},
            {"11", "private void m1() { m2(); } private void m2() { m3(); } private void m3() { m4(); } private void m4() { m5(); } private void m5() { m6(); } "
                + "private void m6() { m7(); } private void m7() { m8(); } private void m8() { within(1, 2); }"},
            {"12", "private Sheet more() { return new Sheet(); }"}, {"12", "private int[] more() { return new int[3]; }"}, {"12", "private int[] more() { return costs.clone(); }"},
            {"12", "private int[] more() { int[] row = {1, 2}; return row; }"}};
        for (String[] m : members) {
            mustFind(m[0], m[1], source.replace(here, "    " + m[1] + "\n" + here), source, document);
        }
        StringBuilder many = new StringBuilder();
        for (int i = 0; i < 9; i++) {
            many.append("private static final class More").append(i).append(" { } ");
        }
        String[][] others = {{"1", "public final class RoadsNotGoneBy", "package p; public final class RoadsNotGoneBy"},
            {"1", "public final class RoadsNotGoneBy", "public class RoadsNotGoneBy"}, {"1", "public int best(", "private int best("},
            {"1", "public int best(int one,", "public int best(long one,"}, {"1", "BAD = -2", "BAD = -5"}, {"1", "-4611686018427387904L", "-4611686018427387903L"},
            {"1", "private static final class Sheet {", "public static final class Sheet {"}, {"1", "public RoadsNotGoneBy() {", "RoadsNotGoneBy() {"},
            {"4", "public final class RoadsNotGoneBy", "import java.util.HashMap; public final class RoadsNotGoneBy"}, {"11", here, many + here},
            {"6", "public RoadsNotGoneBy() {", "public RoadsNotGoneBy() { if (false) { throw new IllegalStateException(); }"},
            {"12", "reader.readText();\n    }", "reader.readText(); own(this); } private static void own(RoadsNotGoneBy x) { }"},
            {"12", "private static final class Sheet {", "private static class Sheet { Sheet() { goes(); }"},
            {"8", "&& open < MOST_OPEN) {\n                next++;\n                readNot(open + 1)", ") {\n                next++;\n                readNot(open + 1)"},
            {"8", "private void readAnd(", "void readAnd("}, {"8", "readNot(open + 1)", "readNot(open)"}, {"8", "readOpened(sort, open + 1)", "readOpened(sort, open)"},
            {"7", "if (made == null || ", "if ("}, {"7", "if (from.hasSpan(i, n) && to.hasSpan(j, n)) {", "if (from.hasSpan(i, n)) {"}};
        for (String[] o : others) {
            mustFind(o[0], o[1] + " -> " + o[2], source.replace(o[1], o[2]), source, document);
        }
        return members.length + others.length;
    }

    private static void mustFind(String rule, String what, String broken, String source, String document) {
        boolean found = false;
        List<String> faults = new Check(broken, document).faults();
        for (String fault : faults) {
            found |= fault.startsWith("rule " + rule + ":");
        }
        String told = what.length() > 160 ? what.substring(0, 160) + ".." : what;
        due("rule " + rule + " is broken and it isn't found: " + told + " " + faults, found && !broken.equals(source));
    }

    // ---- the rules

    /** What a condition says where it holds, or, without a tree, where it doesn't. */
    private static final class Said {
        private final String text;
        private final ExpressionTree tree;

        Said(String says, ExpressionTree by) {
            text = says;
            tree = by;
        }

        boolean isBelow() {
            return tree != null && (tree.getKind() == Tree.Kind.LESS_THAN || tree.getKind() == Tree.Kind.LESS_THAN_EQUAL);
        }

        String left() {
            return ((BinaryTree) tree).getLeftOperand().toString();
        }

        String right() {
            return ((BinaryTree) tree).getRightOperand().toString();
        }
    }

    /** Goes through one text of the class. */
    private static final class Check {
        private static final Set<String> LIBRARY = new HashSet<>(Arrays.asList("java.lang.String.length", "java.lang.String.charAt", "java.lang.String.isEmpty",
            "java.lang.String.equals", "java.lang.String.indexOf", "java.lang.String.substring", "java.lang.String.toCharArray", "java.lang.System.arraycopy",
            "java.lang.Math.max", "java.lang.Math.min", "java.lang.Math.abs", "java.lang.Math.floorMod", "java.lang.Math.floorDiv", "java.lang.Integer.bitCount",
            "java.lang.Integer.compare", "java.lang.Long.compare", "java.lang.Long.bitCount", "java.lang.Object.<init>"));
        private static final Set<String> TYPES = new HashSet<>(Arrays.asList("int", "long", "short", "byte", "char", "boolean", "void", "java.lang.String"));

        private static final JavaCompiler COMPILER = ToolProvider.getSystemJavaCompiler();
        private static final StandardJavaFileManager FILES = COMPILER.getStandardFileManager(null, null, StandardCharsets.UTF_8);

        private final List<String> found = new ArrayList<>();
        private final DiagnosticCollector<JavaFileObject> complaints = new DiagnosticCollector<>();
        private Trees trees;
        private CompilationUnitTree unit;
        private SourcePositions positions;
        private final Map<Element, Set<Element>> callees = new HashMap<>();
        private final Map<Element, Set<Element>> callsOnALevel = new HashMap<>();
        private final Map<Element, MethodTree> methods = new HashMap<>();

        Check(String text, String document) {
            try {
                Set<String> face = faceOf(parsed(faceText(document)));
                JavacTask task = task(text);
                unit = task.parse().iterator().next();
                task.analyze();
                trees = Trees.instance(task);
                positions = trees.getSourcePositions();
                for (Diagnostic<? extends JavaFileObject> d : complaints.getDiagnostics()) {
                    if (d.getKind() == Diagnostic.Kind.ERROR && d.getMessage(null).indexOf("should be declared in a file") < 0) {
                        found.add("it isn't Java: " + d.getMessage(null));
                    }
                }
                face(face);
                new Rules().scan(unit, null);
                calls();
            } catch (IOException e) {
                found.add("it can't be read");
            }
        }

        List<String> faults() {
            return found;
        }

        private JavacTask task(String text) {
            JavaFileObject file = new SimpleJavaFileObject(URI.create("string:///RoadsNotGoneBy.java"), JavaFileObject.Kind.SOURCE) {
                @Override
                public CharSequence getCharContent(boolean ignored) {
                    return text;
                }
            };
            return (JavacTask) COMPILER.getTask(null, FILES, complaints, List.of("--release", "17", "-proc:none"), null, List.of(file));
        }

        private ClassTree parsed(String text) throws IOException {
            return (ClassTree) task(text).parse().iterator().next().getTypeDecls().get(0);
        }

        private static String faceText(String document) {
            int from = document.indexOf("public final class RoadsNotGoneBy");
            return document.substring(from, document.indexOf("```", from));
        }

        private void fault(int rule, Tree where, String what) {
            long line = where == null ? 0 : unit.getLineMap().getLineNumber(positions.getStartPosition(unit, where));
            found.add("rule " + rule + ": line " + line + ": " + what);
        }

        // ---- rule 1

        private static Set<String> faceOf(ClassTree c) {
            Set<String> face = new TreeSet<>();
            for (Tree t : c.getMembers()) {
                if (t instanceof VariableTree && !isPrivate(((VariableTree) t).getModifiers())) {
                    face.add(t.toString().replaceAll("\\s+", " ").trim());
                } else if (t instanceof MethodTree && !isPrivate(((MethodTree) t).getModifiers())) {
                    MethodTree m = (MethodTree) t;
                    face.add((m.getModifiers() + " " + m.getReturnType() + " " + m.getName() + m.getParameters()).replaceAll("\\s+", " ").trim());
                }
            }
            return face;
        }

        private static boolean isPrivate(ModifiersTree m) {
            return m.getFlags().contains(Modifier.PRIVATE);
        }

        private void face(Set<String> due) {
            if (unit.getPackageName() != null || unit.getTypeDecls().size() != 1) {
                fault(1, null, "a package, or not one class");
            }
            ClassTree c = (ClassTree) unit.getTypeDecls().get(0);
            if (!c.getModifiers().getFlags().equals(Set.of(Modifier.PUBLIC, Modifier.FINAL)) || !c.getSimpleName().contentEquals("RoadsNotGoneBy")) {
                fault(1, c, "the class isn't public and final");
            }
            Set<String> got = faceOf(c);
            got.remove("public RoadsNotGoneBy()");
            if (!got.equals(due)) {
                Set<String> more = new TreeSet<>(got);
                more.removeAll(due);
                Set<String> less = new TreeSet<>(due);
                less.removeAll(got);
                fault(1, c, "the face has more " + more + " and less " + less);
            }
        }

        // ---- all that is read off by going through

        private final class Rules extends TreePathScanner<Void, Void> {
            private int classes = 0;
            private final Set<String> publicNames = new HashSet<>();

            @Override
            public Void visitImport(ImportTree t, Void v) {
                fault(4, t, "an import");
                return super.visitImport(t, v);
            }

            @Override
            public Void visitClass(ClassTree t, Void v) {
                classes++;
                Tree parent = getCurrentPath().getParentPath().getLeaf();
                if (parent instanceof ClassTree) {
                    Set<Modifier> flags = t.getModifiers().getFlags();
                    if (!flags.contains(Modifier.STATIC) || flags.contains(Modifier.PUBLIC) || flags.contains(Modifier.PROTECTED)) {
                        fault(1, t, "a class inside that isn't static, or is public");
                    }
                } else if (!(parent instanceof CompilationUnitTree)) {
                    fault(2, t, "a local class");
                }
                if (classes > 12) {
                    fault(11, t, "more than twelve classes");
                }
                int fields = 0;
                for (Tree m : t.getMembers()) {
                    if (m instanceof BlockTree) {
                        fault(5, m, "an initialiser block");
                    } else if (m instanceof VariableTree && !((VariableTree) m).getModifiers().getFlags().contains(Modifier.STATIC)) {
                        fields++;
                    } else if (m instanceof MethodTree && ((MethodTree) m).getModifiers().getFlags().contains(Modifier.PUBLIC)) {
                        publicNames.add(((MethodTree) m).getName().toString());
                    }
                }
                if (fields > 20) {
                    fault(11, t, "more than twenty fields");
                }
                return super.visitClass(t, v);
            }

            @Override
            public Void visitLambdaExpression(LambdaExpressionTree t, Void v) {
                fault(2, t, "a lambda");
                return super.visitLambdaExpression(t, v);
            }

            @Override
            public Void visitMemberReference(MemberReferenceTree t, Void v) {
                fault(2, t, "a method reference");
                return super.visitMemberReference(t, v);
            }

            @Override
            public Void visitMethod(MethodTree t, Void v) {
                Element e = element();
                methods.put(e, t);
                if (!e.getModifiers().contains(Modifier.PUBLIC) && publicNames.contains(t.getName().toString()) && !t.getName().contentEquals("<init>")) {
                    fault(1, t, "bears the name of a public one");
                }
                if (Set.of("equals", "hashCode", "toString").contains(t.getName().toString())) {
                    fault(6, t, "a " + t.getName() + " of one's own");
                }
                if (t.getModifiers().getFlags().contains(Modifier.SYNCHRONIZED) || !t.getThrows().isEmpty()) {
                    fault(6, t, "synchronized, or throws");
                }
                if (t.getParameters().size() > 7) {
                    fault(11, t, "more than seven parameters");
                }
                if (t.getBody() != null && lines(t) > 60) {
                    fault(11, t, "more than sixty lines");
                }
                if (t.getReturnType() != null) {
                    type(t.getReturnType());
                }
                return super.visitMethod(t, v);
            }

            private long lines(Tree t) {
                return unit.getLineMap().getLineNumber(positions.getEndPosition(unit, t)) - unit.getLineMap().getLineNumber(positions.getStartPosition(unit, t));
            }

            @Override
            public Void visitVariable(VariableTree t, Void v) {
                Element e = element();
                type(t.getType());
                if (e.getKind() == ElementKind.FIELD && e.getModifiers().contains(Modifier.STATIC)) {
                    staticField(t, (VariableElement) e);
                } else if (e.getKind() == ElementKind.FIELD && isReference(e.asType()) && !e.getModifiers().contains(Modifier.FINAL)) {
                    fault(7, t, "a field that may be null");
                }
                return super.visitVariable(t, v);
            }

            private void staticField(VariableTree t, VariableElement e) {
                boolean array = e.asType().getKind() == TypeKind.ARRAY;
                if (!e.getModifiers().contains(Modifier.FINAL) || !array && e.getConstantValue() == null) {
                    fault(5, t, "static, and not a constant");
                }
                if (array && !(t.getInitializer() instanceof NewArrayTree && ((NewArrayTree) t.getInitializer()).getInitializers() != null)) {
                    fault(5, t, "a static array that isn't written out");
                }
            }

            private void type(Tree t) {
                TypeMirror m = trees.getTypeMirror(new TreePath(getCurrentPath(), t));
                if (m == null || !allowed(m)) {
                    fault(3, t, "a type beyond the rule: " + t);
                }
            }

            private boolean allowed(TypeMirror m) {
                if (m.getKind() == TypeKind.ARRAY) {
                    TypeMirror of = ((ArrayType) m).getComponentType();
                    boolean rows = of.getKind() == TypeKind.ARRAY && ((ArrayType) of).getComponentType().getKind().isPrimitive();
                    return rows || of.getKind().isPrimitive() || of.getKind() == TypeKind.DECLARED && isOwn(of.toString());
                }
                return TYPES.contains(m.toString()) || isOwn(m.toString());
            }

            private boolean isOwn(String name) {
                return name.equals("RoadsNotGoneBy") || name.startsWith("RoadsNotGoneBy.");
            }

            private boolean isReference(TypeMirror m) {
                return !m.getKind().isPrimitive() && !m.toString().equals("java.lang.String");
            }

            private Element element() {
                return trees.getElement(getCurrentPath());
            }

            private Element elementOf(Tree t) {
                return trees.getElement(new TreePath(getCurrentPath(), t));
            }

            private TypeMirror typeOf(Tree t) {
                return trees.getTypeMirror(new TreePath(getCurrentPath(), t));
            }

            @Override
            public Void visitLiteral(LiteralTree t, Void v) {
                if (t.getValue() instanceof String || t.getValue() instanceof Character) {
                    for (char c : t.getValue().toString().toCharArray()) {
                        if (c < 1 || c > 127) {
                            fault(4, t, "a sign beyond 127");
                        }
                    }
                } else if (t.getValue() instanceof Double || t.getValue() instanceof Float) {
                    fault(3, t, "a double or float, which this class has no need of");
                }
                return super.visitLiteral(t, v);
            }

            @Override
            public Void visitMemberSelect(MemberSelectTree t, Void v) {
                Element e = element();
                if (e != null && e.getKind() == ElementKind.FIELD && e.getEnclosingElement() != null && e.getEnclosingElement().toString().startsWith("java.")) {
                    fault(4, t, "a field of the library");
                }
                return super.visitMemberSelect(t, v);
            }

            @Override
            public Void visitMethodInvocation(MethodInvocationTree t, Void v) {
                Element e = trees.getElement(getCurrentPath());
                if (!(e instanceof ExecutableElement)) {
                    fault(4, t, "a call of something unknown");
                    return super.visitMethodInvocation(t, v);
                }
                TypeElement of = (TypeElement) e.getEnclosingElement();
                boolean own = isOwn(of.getQualifiedName().toString());
                if (e.getSimpleName().contentEquals("clone")) {
                    fault(12, t, "a copy that a call makes");
                } else if (!own && !LIBRARY.contains(of.getQualifiedName() + "." + e.getSimpleName())) {
                    fault(4, t, "beyond the library: " + e);
                } else if (own) {
                    ownCall(t, e, of);
                } else {
                    libraryCall(t, e);
                }
                return super.visitMethodInvocation(t, v);
            }

            private void ownCall(MethodInvocationTree t, Element callee, TypeElement of) {
                Element caller = method();
                for (ExpressionTree a : t.getArguments()) {
                    mayBeNull(a);
                    if (a.toString().equals("this")) {
                        fault(12, t, "hands itself out");
                    }
                }
                if (caller == null) {
                    return;
                }
                boolean open = !of.getModifiers().contains(Modifier.FINAL) && !callee.getModifiers().contains(Modifier.PRIVATE)
                    && !callee.getModifiers().contains(Modifier.STATIC);
                if (caller.getKind() == ElementKind.CONSTRUCTOR && open && !callee.getSimpleName().contentEquals("<init>")) {
                    fault(12, t, "a constructor calls what could be overridden");
                }
                callees.computeIfAbsent(caller, k -> new HashSet<>()).add(callee);
                if (!isALevelDeeper(t, (ExecutableElement) caller)) {
                    callsOnALevel.computeIfAbsent(caller, k -> new HashSet<>()).add(callee);
                }
            }

            // A parameter and 1, where the parameter is below a bound.
            private boolean isALevelDeeper(MethodInvocationTree t, ExecutableElement caller) {
                for (ExpressionTree a : t.getArguments()) {
                    for (VariableElement p : caller.getParameters()) {
                        if (a.toString().equals(p + " + 1") && holdsHere(c -> isBelowABound(c, p.toString()), t, p.toString())) {
                            return true;
                        }
                    }
                }
                return false;
            }

            private boolean isBelowABound(Said c, String name) {
                return c.isBelow() && c.left().equals(name) && constant(((BinaryTree) c.tree).getRightOperand()) != null;
            }

            private void libraryCall(MethodInvocationTree t, Element e) {
                String text = t.toString();
                if (e.getSimpleName().contentEquals("charAt")) {
                    String of = ((MemberSelectTree) t.getMethodSelect()).getExpression().toString();
                    indexed(t, t.getArguments().get(0).toString(), of + ".length()", text);
                } else if (e.getSimpleName().contentEquals("arraycopy")) {
                    List<? extends ExpressionTree> a = t.getArguments();
                    boolean from = spanIsAsked(t, a.get(0), a.get(1), a.get(4));
                    boolean to = spanIsAsked(t, a.get(2), a.get(3), a.get(4));
                    if (!from || !to) {
                        fault(7, t, "a row is copied whose places nobody has looked at");
                    }
                }
            }

            private boolean spanIsAsked(Tree t, ExpressionTree row, ExpressionTree place, ExpressionTree n) {
                if (!row.toString().endsWith(".items")) {
                    return false;
                }
                String asked = row.toString().replace(".items", ".hasSpan(") + place + ", " + n + ")";
                return holdsHere(c -> c.text.equals(asked), t, place.toString());
            }

            @Override
            public Void visitNewClass(NewClassTree t, Void v) {
                mustBeMadeOnce(t);
                for (ExpressionTree a : t.getArguments()) {
                    if (a.toString().equals("this")) {
                        fault(12, t, "hands itself out");
                    }
                }
                TypeMirror m = typeOf(t.getIdentifier());
                if (m == null || !isOwn(m.toString())) {
                    fault(4, t, "an object of the library, which this class has no need of");
                }
                return super.visitNewClass(t, v);
            }

            @Override
            public Void visitNewArray(NewArrayTree t, Void v) {
                mustBeMadeOnce(t);
                for (ExpressionTree d : t.getDimensions()) {
                    Long n = constant(d);
                    if (n == null || n < 0) {
                        fault(7, t, "a length that isn't a constant");
                    }
                }
                return super.visitNewArray(t, v);
            }

            private void mustBeMadeOnce(Tree t) {
                Element m = method();
                if (m != null && m.getKind() != ElementKind.CONSTRUCTOR) {
                    fault(12, t, "an object that a call makes");
                }
            }

            private Element method() {
                for (TreePath p = getCurrentPath(); p != null; p = p.getParentPath()) {
                    if (p.getLeaf() instanceof MethodTree) {
                        return trees.getElement(p);
                    }
                }
                return null;
            }

            private MethodTree methodTree() {
                for (TreePath p = getCurrentPath(); p != null; p = p.getParentPath()) {
                    if (p.getLeaf() instanceof MethodTree) {
                        return (MethodTree) p.getLeaf();
                    }
                }
                return null;
            }

            // ---- rule 6

            @Override
            public Void visitThrow(ThrowTree t, Void v) {
                fault(6, t, "a throw: the document names no exception");
                return super.visitThrow(t, v);
            }

            @Override
            public Void visitTry(TryTree t, Void v) {
                fault(6, t, "a try: nothing throws");
                return super.visitTry(t, v);
            }

            @Override
            public Void visitSynchronized(SynchronizedTree t, Void v) {
                fault(6, t, "synchronized");
                return super.visitSynchronized(t, v);
            }

            @Override
            public Void visitAssert(AssertTree t, Void v) {
                fault(6, t, "assert");
                return super.visitAssert(t, v);
            }

            @Override
            public Void visitTypeCast(TypeCastTree t, Void v) {
                if (!typeOf(t.getType()).getKind().isPrimitive() || !typeOf(t.getExpression()).getKind().isPrimitive()) {
                    fault(6, t, "a cast of an object, which this class has no need of");
                }
                return super.visitTypeCast(t, v);
            }

            // ---- rules 7, 10

            @Override
            public Void visitBinary(BinaryTree t, Void v) {
                String left = String.valueOf(typeOf(t.getLeftOperand()));
                String right = String.valueOf(typeOf(t.getRightOperand()));
                boolean texts = left.equals("java.lang.String") || right.equals("java.lang.String");
                if (texts && t.getKind() == Tree.Kind.PLUS) {
                    fault(10, t, "texts joined by +");
                } else if (left.equals("java.lang.String") && right.equals("java.lang.String")) {
                    fault(6, t, "two texts by ==");
                } else if (t.getKind() == Tree.Kind.DIVIDE || t.getKind() == Tree.Kind.REMAINDER) {
                    divisor(t, t.getRightOperand());
                }
                return super.visitBinary(t, v);
            }

            @Override
            public Void visitCompoundAssignment(CompoundAssignmentTree t, Void v) {
                if (String.valueOf(typeOf(t.getVariable())).equals("java.lang.String")) {
                    fault(10, t, "texts joined by +=");
                } else if (t.getKind() == Tree.Kind.DIVIDE_ASSIGNMENT || t.getKind() == Tree.Kind.REMAINDER_ASSIGNMENT) {
                    divisor(t, t.getExpression());
                }
                changes(t.getVariable());
                return super.visitCompoundAssignment(t, v);
            }

            @Override
            public Void visitAssignment(AssignmentTree t, Void v) {
                changes(t.getVariable());
                return super.visitAssignment(t, v);
            }

            @Override
            public Void visitUnary(UnaryTree t, Void v) {
                if (t.getKind() != Tree.Kind.UNARY_MINUS && t.getKind() != Tree.Kind.LOGICAL_COMPLEMENT) {
                    changes(t.getExpression());
                }
                return super.visitUnary(t, v);
            }

            private void changes(ExpressionTree target) {
                if (target instanceof ArrayAccessTree && isStatic(elementOf(((ArrayAccessTree) target).getExpression()))) {
                    fault(5, target, "a static array changes");
                }
            }

            private boolean isStatic(Element e) {
                return e != null && e.getKind() == ElementKind.FIELD && e.getModifiers().contains(Modifier.STATIC);
            }

            @Override
            public Void visitIdentifier(IdentifierTree t, Void v) {
                Element e = element();
                Tree parent = getCurrentPath().getParentPath().getLeaf();
                boolean array = isStatic(e) && e.asType().getKind() == TypeKind.ARRAY;
                // item() alone is handed static rows: it reads them only.
                boolean read = parent instanceof ArrayAccessTree || parent instanceof MemberSelectTree
                    || parent instanceof MethodInvocationTree && ((MethodInvocationTree) parent).getMethodSelect().toString().equals("item");
                if (array && !read) {
                    fault(5, t, "a static array is handed on");
                }
                return super.visitIdentifier(t, v);
            }

            private void divisor(Tree t, ExpressionTree by) {
                Long n = constant(by);
                boolean safe = n != null ? n != 0 : holdsHere(c -> c.text.equals(by + " != 0"), t, by.toString());
                if (!safe) {
                    fault(7, t, "a divisor that nobody has looked at");
                }
            }

            @Override
            public Void visitArrayAccess(ArrayAccessTree t, Void v) {
                indexed(t, t.getIndex().toString(), t.getExpression() + ".length", t.toString());
                return super.visitArrayAccess(t, v);
            }

            // A condition that holds here says: from 0 on, and below the length.
            private void indexed(Tree t, String index, String length, String what) {
                boolean within = holdsHere(c -> c.text.equals("within(" + index + ", " + length + ")"), t, index);
                boolean below = holdsHere(c -> c.text.equals(index + " < " + length), t, index);
                boolean fromNought = holdsHere(c -> c.text.equals(index + " >= 0"), t, index) || countsFromNought(t, index);
                if (!within && !(below && fromNought)) {
                    fault(7, t, "an index that nobody has looked at: " + what);
                }
            }

            private boolean countsFromNought(Tree t, String index) {
                for (TreePath p = getCurrentPath(); p != null; p = p.getParentPath()) {
                    if (p.getLeaf() instanceof ForLoopTree) {
                        ForLoopTree f = (ForLoopTree) p.getLeaf();
                        boolean starts = f.getInitializer().size() == 1 && f.getInitializer().get(0) instanceof VariableTree
                            && ((VariableTree) f.getInitializer().get(0)).getName().contentEquals(index)
                            && (isNought((VariableTree) f.getInitializer().get(0)) || holdsHere(c -> c.text.equals(index + " >= 0"), t, index));
                        if (starts && f.getUpdate().toString().equals(index + "++;") && !assigned(f.getStatement(), index, Long.MAX_VALUE)) {
                            return true;
                        }
                    }
                }
                return false;
            }

            private boolean isNought(VariableTree t) {
                return t.getInitializer() != null && Long.valueOf(0).equals(constant(t.getInitializer()));
            }

            // ---- what the conditions round a place say there

            private boolean holdsHere(Predicate<Said> says, Tree place, String names) {
                long here = positions.getStartPosition(unit, place);
                boolean loopBetween = false;
                Tree loop = null;
                for (TreePath p = getCurrentPath(); p.getParentPath() != null && !(p.getLeaf() instanceof MethodTree); p = p.getParentPath()) {
                    Tree child = p.getLeaf();
                    Tree t = p.getParentPath().getLeaf();
                    List<Said> said = new ArrayList<>();
                    if (t instanceof IfTree && ((IfTree) t).getThenStatement() == child) {
                        split(((IfTree) t).getCondition(), false, said);
                    } else if (t instanceof IfTree && ((IfTree) t).getElseStatement() == child) {
                        split(((IfTree) t).getCondition(), true, said);
                    } else if (t instanceof ConditionalExpressionTree && ((ConditionalExpressionTree) t).getTrueExpression() == child) {
                        split(((ConditionalExpressionTree) t).getCondition(), false, said);
                    } else if (t instanceof ConditionalExpressionTree && ((ConditionalExpressionTree) t).getFalseExpression() == child) {
                        split(((ConditionalExpressionTree) t).getCondition(), true, said);
                    } else if (t instanceof ForLoopTree && ((ForLoopTree) t).getStatement() == child) {
                        split(((ForLoopTree) t).getCondition(), false, said);
                    } else if (t instanceof WhileLoopTree && ((WhileLoopTree) t).getStatement() == child) {
                        split(((WhileLoopTree) t).getCondition(), false, said);
                    } else if (t.getKind() == Tree.Kind.CONDITIONAL_AND && ((BinaryTree) t).getRightOperand() == child) {
                        split(((BinaryTree) t).getLeftOperand(), false, said);
                    } else if (t.getKind() == Tree.Kind.CONDITIONAL_OR && ((BinaryTree) t).getRightOperand() == child) {
                        split(((BinaryTree) t).getLeftOperand(), true, said);
                    }
                    for (Said c : said) {
                        if (says.test(c)) {
                            return !assigned(child, names, here) && !(loopBetween && assigned(loop, names, Long.MAX_VALUE));
                        }
                    }
                    if (t instanceof ForLoopTree || t instanceof WhileLoopTree || t instanceof DoWhileLoopTree) {
                        loopBetween = true;
                        loop = t;
                    }
                }
                return false;
            }

            // What holds, if a condition does, or (denied) if it doesn't.
            private void split(ExpressionTree c, boolean denied, List<Said> said) {
                if (c == null) {
                    return;
                }
                if (c instanceof ParenthesizedTree) {
                    split(((ParenthesizedTree) c).getExpression(), denied, said);
                } else if (c.getKind() == (denied ? Tree.Kind.CONDITIONAL_OR : Tree.Kind.CONDITIONAL_AND)) {
                    split(((BinaryTree) c).getLeftOperand(), denied, said);
                    split(((BinaryTree) c).getRightOperand(), denied, said);
                } else if (!denied) {
                    said.add(new Said(c.toString(), c));
                } else if (c.getKind() == Tree.Kind.EQUAL_TO) {
                    said.add(new Said(((BinaryTree) c).getLeftOperand() + " != " + ((BinaryTree) c).getRightOperand(), null));
                }
            }

            private boolean assigned(Tree in, String names, long till) {
                Set<String> parts = new HashSet<>(Arrays.asList(names.split("[^A-Za-z0-9_]+")));
                boolean[] does = {false};
                new TreeScanner<Void, Void>() {
                    private void is(Tree target) {
                        does[0] |= parts.contains(target.toString()) && positions.getStartPosition(unit, target) < till;
                    }

                    @Override
                    public Void visitAssignment(AssignmentTree t, Void v) {
                        is(t.getVariable());
                        return super.visitAssignment(t, v);
                    }

                    @Override
                    public Void visitCompoundAssignment(CompoundAssignmentTree t, Void v) {
                        is(t.getVariable());
                        return super.visitCompoundAssignment(t, v);
                    }

                    @Override
                    public Void visitUnary(UnaryTree t, Void v) {
                        if (t.getKind() != Tree.Kind.UNARY_MINUS && t.getKind() != Tree.Kind.LOGICAL_COMPLEMENT) {
                            is(t.getExpression());
                        }
                        return super.visitUnary(t, v);
                    }
                }.scan(in, null);
                return does[0];
            }

            private Long constant(ExpressionTree t) {
                if (t instanceof ParenthesizedTree) {
                    return constant(((ParenthesizedTree) t).getExpression());
                }
                if (t instanceof LiteralTree && ((LiteralTree) t).getValue() instanceof Number) {
                    return ((Number) ((LiteralTree) t).getValue()).longValue();
                }
                if (t instanceof BinaryTree) {
                    Long a = constant(((BinaryTree) t).getLeftOperand());
                    Long b = constant(((BinaryTree) t).getRightOperand());
                    if (a == null || b == null) {
                        return null;
                    }
                    return t.getKind() == Tree.Kind.PLUS ? Long.valueOf(a + b) : t.getKind() == Tree.Kind.MINUS ? Long.valueOf(a - b)
                        : t.getKind() == Tree.Kind.MULTIPLY ? Long.valueOf(a * b) : null;
                }
                Element e = t instanceof IdentifierTree || t instanceof MemberSelectTree ? elementOf(t) : null;
                Object value = e instanceof VariableElement ? ((VariableElement) e).getConstantValue() : null;
                return value instanceof Number ? Long.valueOf(((Number) value).longValue()) : null;
            }

            // ---- null

            // An object whose field or method is used, or that is handed on, is no bare answer of a call that may answer null, and no
            // variable that holds such an answer and hasn't been laid beside null ahead of it.
            private void mayBeNull(ExpressionTree t) {
                TypeMirror m = typeOf(t);
                if (m == null || !isReference(m) || m.getKind() == TypeKind.NULL) {
                    if (m != null && m.getKind() == TypeKind.NULL) {
                        fault(7, t, "null is handed on");
                    }
                    return;
                }
                if (t instanceof ArrayAccessTree && !(m.getKind() == TypeKind.ARRAY)) {
                    fault(7, t, "an item that may be null is used");
                } else if (t instanceof MethodInvocationTree && answersNull(elementOf(t))) {
                    fault(7, t, "an answer that may be null is used");
                } else if (t instanceof IdentifierTree && isUnsure(elementOf(t)) && !isLaidBesideNull((IdentifierTree) t)) {
                    fault(7, t, "what may be null is used: " + t);
                }
            }

            @Override
            public Void scan(Tree t, Void v) {
                if (t instanceof MemberSelectTree) {
                    ExpressionTree of = ((MemberSelectTree) t).getExpression();
                    TreePath path = new TreePath(getCurrentPath(), of);
                    Element e = trees.getElement(path);
                    if (e == null || e.getKind() != ElementKind.CLASS && e.getKind() != ElementKind.PACKAGE) {
                        mayBeNull(of);
                    }
                } else if (t instanceof ArrayAccessTree) {
                    mayBeNull(((ArrayAccessTree) t).getExpression());
                }
                return super.scan(t, v);
            }

            private boolean answersNull(Element method) {
                boolean[] does = {false};
                Tree tree = method == null ? null : trees.getTree(method);
                new TreeScanner<Void, Void>() {
                    @Override
                    public Void visitReturn(ReturnTree t, Void v) {
                        does[0] |= t.getExpression() != null && t.getExpression().toString().matches("(?s).*\\bnull\\b.*");
                        return super.visitReturn(t, v);
                    }
                }.scan(tree, null);
                return does[0];
            }

            private boolean isUnsure(Element e) {
                if (e == null || e.getKind() != ElementKind.LOCAL_VARIABLE) {
                    return false;
                }
                Tree tree = trees.getTree(e);
                if (!(tree instanceof VariableTree)) {
                    return true;
                }
                String from = String.valueOf(((VariableTree) tree).getInitializer());
                return !from.startsWith("new ");
            }

            // if (x == null || ..) { return ..; } ahead of the place
            private boolean isLaidBesideNull(IdentifierTree t) {
                long here = positions.getStartPosition(unit, t);
                boolean[] is = {false};
                new TreeScanner<Void, Void>() {
                    @Override
                    public Void visitIf(IfTree f, Void v) {
                        boolean ahead = positions.getStartPosition(unit, f) < here;
                        is[0] |= ahead && returns(f.getThenStatement()) && orsNull(f.getCondition(), t.getName().toString());
                        return super.visitIf(f, v);
                    }
                }.scan(methodTree(), null);
                return is[0];
            }

            private boolean returns(StatementTree s) {
                List<? extends StatementTree> all = s instanceof BlockTree ? ((BlockTree) s).getStatements() : List.of(s);
                return !all.isEmpty() && all.get(all.size() - 1) instanceof ReturnTree;
            }

            private boolean orsNull(ExpressionTree c, String name) {
                if (c instanceof ParenthesizedTree) {
                    return orsNull(((ParenthesizedTree) c).getExpression(), name);
                }
                if (c.getKind() == Tree.Kind.CONDITIONAL_OR) {
                    return orsNull(((BinaryTree) c).getLeftOperand(), name) || orsNull(((BinaryTree) c).getRightOperand(), name);
                }
                return c.toString().equals(name + " == null");
            }

            // ---- rule 9

            @Override
            public Void visitForLoop(ForLoopTree t, Void v) {
                if (!ends(t)) {
                    fault(9, t, "a loop whose end can't be seen");
                }
                return super.visitForLoop(t, v);
            }

            private boolean ends(ForLoopTree t) {
                List<Said> said = new ArrayList<>();
                split(t.getCondition(), false, said);
                for (Said c : said) {
                    if (c.isBelow()) {
                        String counter = c.left();
                        String bound = c.right();
                        boolean counts = t.getUpdate().size() == 1 && t.getUpdate().get(0).toString().equals(counter + "++;");
                        if (counts && !assigned(t.getStatement(), counter, Long.MAX_VALUE) && !assigned(t.getStatement(), bound, Long.MAX_VALUE)) {
                            return true;
                        }
                    }
                }
                return false;
            }

            @Override
            public Void visitWhileLoop(WhileLoopTree t, Void v) {
                List<Said> said = new ArrayList<>();
                split(t.getCondition(), false, said);
                boolean ends = false;
                for (Said c : said) {
                    if (c.isBelow()) {
                        String counter = c.left();
                        String bound = c.right();
                        ends |= countsAlways(t.getStatement(), counter) && !assigned(t.getStatement(), bound, Long.MAX_VALUE);
                    }
                }
                if (!ends) {
                    fault(9, t, "a loop whose end can't be seen");
                }
                return super.visitWhileLoop(t, v);
            }

            private boolean countsAlways(StatementTree body, String counter) {
                boolean counts = false;
                List<? extends StatementTree> all = body instanceof BlockTree ? ((BlockTree) body).getStatements() : List.of(body);
                for (StatementTree s : all) {
                    counts |= s.toString().equals(counter + "++;");
                    if (!s.toString().equals(counter + "++;") && assigned(s, counter, Long.MAX_VALUE)) {
                        return false;
                    }
                }
                return counts;
            }

            @Override
            public Void visitDoWhileLoop(DoWhileLoopTree t, Void v) {
                fault(9, t, "a do, which this class has no need of");
                return super.visitDoWhileLoop(t, v);
            }

            @Override
            public Void visitEnhancedForLoop(EnhancedForLoopTree t, Void v) {
                if (typeOf(t.getExpression()).getKind() != TypeKind.ARRAY) {
                    fault(12, t, "an iterator that a call makes");
                }
                return super.visitEnhancedForLoop(t, v);
            }

            // ---- rule 10

            @Override
            public Void visitSwitch(SwitchTree t, Void v) {
                ExpressionTree of = ((ParenthesizedTree) t.getExpression()).getExpression();
                if (!typeOf(of).getKind().isPrimitive()) {
                    fault(10, t, "a switch on something else than a number");
                }
                return super.visitSwitch(t, v);
            }
        }

        // ---- rules 8, 11: which calls stand open at once

        private void calls() {
            for (Element m : methods.keySet()) {
                if (leadsTo(m, m, callsOnALevel, new HashSet<>())) {
                    fault(8, methods.get(m), "it calls itself, and no depth is counted");
                }
                if (!m.getModifiers().contains(Modifier.PRIVATE) && leadsTo(m, m, callees, new HashSet<>())) {
                    fault(8, methods.get(m), "it calls itself, and isn't private");
                }
                if (deepest(m, new HashMap<>(), new HashSet<>()) > 8) {
                    fault(11, methods.get(m), "calls more than eight deep");
                }
            }
        }

        private boolean leadsTo(Element from, Element to, Map<Element, Set<Element>> by, Set<Element> seen) {
            for (Element next : by.getOrDefault(from, Set.of())) {
                if (next.equals(to) || seen.add(next) && leadsTo(next, to, by, seen)) {
                    return true;
                }
            }
            return false;
        }

        // What calls one another counts as one.
        private int deepest(Element m, Map<Element, Integer> known, Set<Element> open) {
            if (known.containsKey(m)) {
                return known.get(m);
            }
            open.add(m);
            Set<Element> together = new HashSet<>(Set.of(m));
            for (Element other : methods.keySet()) {
                if (leadsTo(m, other, callees, new HashSet<>()) && leadsTo(other, m, callees, new HashSet<>())) {
                    together.add(other);
                }
            }
            int below = 0;
            for (Element one : together) {
                for (Element next : callees.getOrDefault(one, Set.of())) {
                    if (!together.contains(next) && !open.contains(next)) {
                        below = Math.max(below, deepest(next, known, open));
                    }
                }
            }
            open.remove(m);
            known.put(m, below + 1);
            return below + 1;
        }
    }
}
