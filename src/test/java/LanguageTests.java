import com.sun.source.tree.AssertTree;
import com.sun.source.tree.BinaryTree;
import com.sun.source.tree.ClassTree;
import com.sun.source.tree.CompilationUnitTree;
import com.sun.source.tree.CompoundAssignmentTree;
import com.sun.source.tree.LambdaExpressionTree;
import com.sun.source.tree.MemberReferenceTree;
import com.sun.source.tree.MethodInvocationTree;
import com.sun.source.tree.MethodTree;
import com.sun.source.tree.NewArrayTree;
import com.sun.source.tree.NewClassTree;
import com.sun.source.tree.SynchronizedTree;
import com.sun.source.tree.ThrowTree;
import com.sun.source.tree.Tree;
import com.sun.source.tree.TryTree;
import com.sun.source.tree.VariableTree;
import com.sun.source.util.JavacTask;
import com.sun.source.util.TreePath;
import com.sun.source.util.TreePathScanner;
import com.sun.source.util.Trees;
import java.lang.reflect.Constructor;
import java.lang.reflect.Field;
import java.lang.reflect.Method;
import java.lang.reflect.Modifier;
import java.nio.file.Files;
import java.nio.file.Path;
import java.util.HashSet;
import java.util.LinkedHashMap;
import java.util.LinkedHashSet;
import java.util.List;
import java.util.Map;
import java.util.Set;
import java.util.TreeSet;
import java.util.regex.Matcher;
import java.util.regex.Pattern;
import javax.lang.model.element.Element;
import javax.lang.model.element.ExecutableElement;
import javax.lang.model.element.TypeElement;
import javax.tools.JavaCompiler;
import javax.tools.StandardJavaFileManager;
import javax.tools.ToolProvider;

/** Holds DrawsOut.java against those rules of LANGUAGE.md that a program can see. */
public final class LanguageTests {
    private static final Path SOURCE = Path.of("src/main/java/DrawsOut.java");
    private static final Path DOCUMENT = Path.of("../shared/DOC.md");
    /** What the class may call; the rules allow more, and this list may grow with them. */
    private static final Set<String> LIBRARY = Set.of("java.lang.String.length", "java.lang.String.charAt",
        "java.util.Arrays.fill", "java.lang.Integer.bitCount", "java.lang.Long.bitCount", "java.lang.Math.abs",
        "java.lang.Math.max", "java.lang.Math.min");
    private static int wrong = 0;

    public static void main(String[] args) throws Exception {
        theFace();
        theSource();
        System.out.println(wrong == 0 ? "the rules are kept" : wrong + " rules are broken");
        if (wrong != 0) {
            System.exit(1);
        }
    }

    private static void broken(int rule, String what) {
        wrong++;
        System.out.println("rule " + rule + ": " + what);
    }

    /** The public members are those of the document's face, and there are no others but private ones. */
    private static void theFace() throws Exception {
        Set<String> face = new TreeSet<>();
        Matcher lines = Pattern.compile("^    public (int|long) (\\w+)\\((.*)\\);$", Pattern.MULTILINE)
            .matcher(Files.readString(DOCUMENT));
        while (lines.find()) {
            face.add(lines.group(1) + " " + lines.group(2) + "(" + lines.group(3).replaceAll(" \\w+(?=,|$)", "") + ")");
        }
        Set<String> methods = new TreeSet<>();
        Set<String> publicNames = new HashSet<>();
        for (Method method : DrawsOut.class.getDeclaredMethods()) {
            if (Modifier.isPublic(method.getModifiers())) {
                StringBuilder types = new StringBuilder();
                for (Class<?> type : method.getParameterTypes()) {
                    types.append(types.length() == 0 ? "" : ", ").append(type.getName());
                }
                methods.add(method.getReturnType().getName() + " " + method.getName() + "(" + types + ")");
                publicNames.add(method.getName());
            } else if (!Modifier.isPrivate(method.getModifiers())) {
                broken(1, method + " is neither public nor private");
            }
        }
        if (face.size() != 38 || !face.equals(methods)) {
            broken(1, "the face is " + methods + ", the document's " + face);
        }
        Set<String> constants = new TreeSet<>();
        for (Field field : DrawsOut.class.getDeclaredFields()) {
            if (Modifier.isPublic(field.getModifiers())) {
                constants.add(field.getName());
            } else if (!Modifier.isPrivate(field.getModifiers())) {
                broken(1, field + " is neither public nor private");
            }
        }
        if (!constants.equals(Set.of("NONE", "UNKNOWN", "OUTSIDE", "NOT", "FULL"))) {
            broken(1, "the constants are " + constants);
        }
        Constructor<?>[] constructors = DrawsOut.class.getDeclaredConstructors();
        if (constructors.length != 1 || constructors[0].getParameterCount() != 0
                || !Modifier.isPublic(constructors[0].getModifiers()) || !Modifier.isFinal(DrawsOut.class.getModifiers())) {
            broken(1, "the constructor or the class is not the document's");
        }
        Class<?>[] inside = DrawsOut.class.getDeclaredClasses();
        if (inside.length > 11) {
            broken(11, "there are " + inside.length + " classes inside");
        }
        for (Class<?> type : inside) {
            insideClass(type, publicNames);
        }
    }

    private static void insideClass(Class<?> type, Set<String> publicNames) {
        if (!Modifier.isStatic(type.getModifiers()) || Modifier.isPublic(type.getModifiers())) {
            broken(1, type + " is public or not static");
        }
        int fields = 0;
        for (Field field : type.getDeclaredFields()) {
            fields += Modifier.isStatic(field.getModifiers()) ? 0 : 1;
        }
        if (fields > 20) {
            broken(11, type + " has " + fields + " fields");
        }
        for (Method method : type.getDeclaredMethods()) {
            if (publicNames.contains(method.getName())) {
                broken(1, method + " bears the name of a public method");
            }
        }
    }

    private static void theSource() throws Exception {
        JavaCompiler compiler = ToolProvider.getSystemJavaCompiler();
        try (StandardJavaFileManager files = compiler.getStandardFileManager(null, null, null)) {
            JavacTask task = (JavacTask) compiler.getTask(null, files, null, List.of("-proc:none"), null,
                files.getJavaFileObjects(SOURCE));
            Iterable<? extends CompilationUnitTree> units = task.parse();
            task.analyze();
            for (CompilationUnitTree unit : units) {
                Scanner scanner = new Scanner(Trees.instance(task), unit);
                scanner.scan(unit, null);
                scanner.depths();
            }
        }
    }

    /** Goes through the source and gathers which method calls which. */
    private static final class Scanner extends TreePathScanner<Void, Void> {
        private final Trees trees;
        private final CompilationUnitTree unit;
        private final Map<String, Set<String>> calls = new LinkedHashMap<>();
        private String method = "";

        Scanner(Trees trees, CompilationUnitTree unit) {
            this.trees = trees;
            this.unit = unit;
        }

        private long line(Tree tree) {
            return unit.getLineMap().getLineNumber(trees.getSourcePositions().getStartPosition(unit, tree));
        }

        private void broken(int rule, Tree tree, String what) {
            LanguageTests.broken(rule, "line " + line(tree) + ": " + what);
        }

        private boolean isString(Tree tree) {
            return trees.getTypeMirror(new TreePath(getCurrentPath(), tree)).toString().equals("java.lang.String");
        }

        @Override
        public Void visitMethod(MethodTree tree, Void none) {
            long end = unit.getLineMap().getLineNumber(trees.getSourcePositions().getEndPosition(unit, tree));
            if (end - line(tree) > 60) {
                broken(11, tree, tree.getName() + " is long");
            }
            if (tree.getParameters().size() > 7) {
                broken(11, tree, tree.getName() + " has many parameters");
            }
            String outside = method;
            method = nameOf((ExecutableElement) trees.getElement(getCurrentPath()));
            calls.put(method, new LinkedHashSet<>());
            super.visitMethod(tree, none);
            method = outside;
            return null;
        }

        private static String nameOf(ExecutableElement element) {
            return ((TypeElement) element.getEnclosingElement()).getQualifiedName() + "." + element.getSimpleName();
        }

        @Override
        public Void visitMethodInvocation(MethodInvocationTree tree, Void none) {
            Element element = trees.getElement(new TreePath(getCurrentPath(), tree.getMethodSelect()));
            if (element instanceof ExecutableElement called) {
                String name = nameOf(called);
                if (name.startsWith("DrawsOut")) {
                    calls.get(method).add(name);
                } else if (!LIBRARY.contains(name) && !name.equals("java.lang.Object.<init>")) {
                    broken(4, tree, name + " is called");
                }
            }
            return super.visitMethodInvocation(tree, none);
        }

        @Override
        public Void visitClass(ClassTree tree, Void none) {
            if (!method.isEmpty()) {
                broken(2, tree, "a class inside a method");
            }
            return super.visitClass(tree, none);
        }

        @Override
        public Void visitVariable(VariableTree tree, Void none) {
            Set<javax.lang.model.element.Modifier> flags = tree.getModifiers().getFlags();
            if (flags.contains(javax.lang.model.element.Modifier.STATIC)
                    && !flags.contains(javax.lang.model.element.Modifier.FINAL)) {
                broken(5, tree, tree.getName() + " is static and not final");
            }
            return super.visitVariable(tree, none);
        }

        @Override
        public Void visitNewClass(NewClassTree tree, Void none) {
            onlyInConstructors(tree);
            return super.visitNewClass(tree, none);
        }

        @Override
        public Void visitNewArray(NewArrayTree tree, Void none) {
            onlyInConstructors(tree);
            return super.visitNewArray(tree, none);
        }

        private void onlyInConstructors(Tree tree) {
            if (!method.endsWith(".<init>")) {
                broken(12, tree, "an object is made by a call");
            }
        }

        @Override
        public Void visitBinary(BinaryTree tree, Void none) {
            if (isString(tree)) {
                broken(10, tree, "texts are joined by +");
            }
            return super.visitBinary(tree, none);
        }

        @Override
        public Void visitCompoundAssignment(CompoundAssignmentTree tree, Void none) {
            if (isString(tree)) {
                broken(10, tree, "texts are joined by +=");
            }
            return super.visitCompoundAssignment(tree, none);
        }

        @Override
        public Void visitThrow(ThrowTree tree, Void none) {
            broken(6, tree, "throw");
            return super.visitThrow(tree, none);
        }

        @Override
        public Void visitTry(TryTree tree, Void none) {
            broken(6, tree, "try");
            return super.visitTry(tree, none);
        }

        @Override
        public Void visitSynchronized(SynchronizedTree tree, Void none) {
            broken(6, tree, "synchronized");
            return super.visitSynchronized(tree, none);
        }

        @Override
        public Void visitAssert(AssertTree tree, Void none) {
            broken(6, tree, "assert");
            return super.visitAssert(tree, none);
        }

        @Override
        public Void visitLambdaExpression(LambdaExpressionTree tree, Void none) {
            broken(2, tree, "a lambda");
            return super.visitLambdaExpression(tree, none);
        }

        @Override
        public Void visitMemberReference(MemberReferenceTree tree, Void none) {
            broken(2, tree, "a method reference");
            return super.visitMemberReference(tree, none);
        }

        /** No method comes back to itself, and calls of the class's own go at most seven deep. */
        void depths() {
            for (String name : calls.keySet()) {
                int depth = depth(name, new LinkedHashSet<>());
                if (depth > 7) {
                    LanguageTests.broken(11, name + " goes " + depth + " calls deep");
                }
            }
        }

        private int depth(String name, Set<String> open) {
            if (!open.add(name)) {
                LanguageTests.broken(8, name + " calls itself: " + open);
                return 1;
            }
            int deepest = 0;
            for (String called : calls.getOrDefault(name, Set.of())) {
                deepest = Math.max(deepest, depth(called, open));
            }
            open.remove(name);
            return deepest + 1;
        }
    }
}
