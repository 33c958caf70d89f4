import com.sun.source.tree.AssertTree;
import com.sun.source.tree.BinaryTree;
import com.sun.source.tree.ClassTree;
import com.sun.source.tree.CompilationUnitTree;
import com.sun.source.tree.ImportTree;
import com.sun.source.tree.InstanceOfTree;
import com.sun.source.tree.LambdaExpressionTree;
import com.sun.source.tree.MemberReferenceTree;
import com.sun.source.tree.MethodInvocationTree;
import com.sun.source.tree.MethodTree;
import com.sun.source.tree.NewArrayTree;
import com.sun.source.tree.NewClassTree;
import com.sun.source.tree.SynchronizedTree;
import com.sun.source.tree.ThrowTree;
import com.sun.source.tree.Tree;
import com.sun.source.tree.TryTree;
import com.sun.source.tree.VariableTree;
import com.sun.source.util.JavacTask;
import com.sun.source.util.SourcePositions;
import com.sun.source.util.TreePathScanner;
import com.sun.source.util.Trees;
import java.io.IOException;
import java.nio.file.Path;
import java.util.ArrayList;
import java.util.List;
import java.util.Map;
import java.util.Set;
import java.util.TreeMap;
import java.util.TreeSet;
import javax.lang.model.element.Element;
import javax.lang.model.element.ElementKind;
import javax.lang.model.element.Modifier;
import javax.lang.model.type.TypeKind;
import javax.tools.JavaCompiler;
import javax.tools.StandardJavaFileManager;
import javax.tools.ToolProvider;

/**
 * The rules of LANGUAGE.md that can be seen in the source; it is run in the checkout. Where the class needs
 * less than a rule leaves, the test allows no more than the class needs.
 */
public final class LanguageTest {
    private static final Path SOURCE = Path.of("src/main/java/WalkAligner.java");
    private static final Set<String> LIBRARY = Set.of(
            "java.lang.Object.Object()",
            "java.lang.StringBuilder.StringBuilder()",
            "java.lang.StringBuilder.append(char)",
            "java.lang.StringBuilder.append(int)",
            "java.lang.StringBuilder.charAt(int)",
            "java.lang.StringBuilder.length()",
            "java.lang.StringBuilder.setLength(int)",
            "java.lang.Math.min(int,int)",
            "java.util.Arrays.fill(int[],int)");
    private static final Set<String> CONSTANTS = Set.of("int", "long", "boolean", "char", "java.lang.String");

    private static final Checks checks = new Checks("Language");
    private static final Seen seen = new Seen();

    public static void main(String[] args) throws IOException {
        look();
        checks.test("the source was read", LanguageTest::sourceWasRead);
        checks.test("1: no private method bears the name of a public one", LanguageTest::names);
        checks.test("1, 2: the classes inside are static", LanguageTest::classesInside);
        checks.test("2, 6: no lambda, no method reference, no exception, no assert", LanguageTest::forms);
        checks.test("3: types", LanguageTest::types);
        checks.test("4: the library", LanguageTest::library);
        checks.test("5: static fields are final constants", LanguageTest::statics);
        checks.test("8, 11: no recursion, calls at most eight deep", LanguageTest::depth);
        checks.test("10: no text joined by +", LanguageTest::joins);
        checks.test("11: parameters, lines, classes, fields", LanguageTest::sizes);
        checks.test("12: objects are made with the object alone", LanguageTest::objects);
        checks.end();
    }

    private static void look() throws IOException {
        JavaCompiler compiler = ToolProvider.getSystemJavaCompiler();
        try (StandardJavaFileManager files = compiler.getStandardFileManager(null, null, null)) {
            JavacTask task = (JavacTask) compiler.getTask(null, files, null, List.of("-proc:none"), null,
                    files.getJavaFileObjects(SOURCE));
            CompilationUnitTree unit = task.parse().iterator().next();
            task.analyze();
            seen.trees = Trees.instance(task);
            seen.unit = unit;
            seen.scan(unit, null);
        }
    }

    private static void sourceWasRead() {
        checks.same("package", String.valueOf(seen.unit.getPackageName()), "null");
        checks.yes("has methods", seen.methods.size() > 15);
        checks.same("imports", seen.imports.toString(), "[java.util.Arrays]");
    }

    private static void names() {
        for (Element method : seen.methods) {
            if (!method.getModifiers().contains(Modifier.PUBLIC)) {
                checks.no(method.toString(), seen.isNameOfFace(method.getSimpleName().toString()));
            }
        }
    }

    private static void classesInside() {
        for (Element inside : seen.classes) {
            boolean outermost = inside.getEnclosingElement().getKind() == ElementKind.PACKAGE;
            checks.yes(inside.toString(), outermost || inside.getModifiers().contains(Modifier.STATIC));
        }
    }

    private static void forms() {
        checks.same("forms", seen.forms.toString(), "[]");
    }

    private static void types() {
        checks.same("types", seen.types.toString(), "[WalkAligner.Costs, WalkAligner.Graph, WalkAligner.Read, "
                + "WalkAligner.Result, WalkAligner.Text, boolean, char, char[], int, int[], java.lang.StringBuilder]");
    }

    private static void library() {
        for (String call : seen.libraryCalls) {
            checks.yes(call, LIBRARY.contains(call));
        }
    }

    private static void statics() {
        for (Element field : seen.fields) {
            if (field.getModifiers().contains(Modifier.STATIC)) {
                checks.yes(field + " is final", field.getModifiers().contains(Modifier.FINAL));
                checks.yes(field + " is a constant", CONSTANTS.contains(field.asType().toString()));
            }
        }
        checks.same("static blocks", seen.staticBlocks, 0);
    }

    private static void depth() {
        for (String method : seen.calls.keySet()) {
            checks.yes("at most eight deep from " + method, depthOf(method, 1) <= 8);
        }
    }

    private static int depthOf(String method, int depth) {
        int deepest = depth;
        for (String called : depth > 8 ? Set.<String>of() : seen.calls.getOrDefault(method, Set.of())) {
            deepest = Math.max(deepest, depthOf(called, depth + 1));
        }
        return deepest;
    }

    private static void joins() {
        checks.same("texts joined by +", seen.textJoins, 0);
    }

    private static void sizes() {
        checks.yes("classes", seen.classes.size() <= 12);
        for (Element inside : seen.classes) {
            checks.yes("fields of " + inside, seen.fields.stream()
                    .filter(field -> field.getEnclosingElement() == inside)
                    .filter(field -> !field.getModifiers().contains(Modifier.STATIC)).count() <= 20);
        }
        seen.parameters.forEach((method, count) -> checks.yes("parameters of " + method, count <= 7));
        seen.lines.forEach((method, count) -> checks.yes("lines of " + method, count <= 60));
    }

    private static void objects() {
        checks.same("made in methods", seen.madeInMethods.toString(), "[]");
    }

    /** What stands in the source. */
    private static final class Seen extends TreePathScanner<Void, Void> {
        Trees trees;
        CompilationUnitTree unit;
        final List<Element> classes = new ArrayList<>();
        final List<Element> methods = new ArrayList<>();
        final List<Element> fields = new ArrayList<>();
        final Set<String> imports = new TreeSet<>();
        final Set<String> forms = new TreeSet<>();
        final Set<String> types = new TreeSet<>();
        final Set<String> libraryCalls = new TreeSet<>();
        final Set<String> madeInMethods = new TreeSet<>();
        final Map<String, Set<String>> calls = new TreeMap<>();
        final Map<String, Integer> parameters = new TreeMap<>();
        final Map<String, Long> lines = new TreeMap<>();
        int staticBlocks;
        int textJoins;
        private String method = "";

        boolean isNameOfFace(String name) {
            return methods.stream().anyMatch(other -> other.getModifiers().contains(Modifier.PUBLIC)
                    && other.getKind() == ElementKind.METHOD && other.getSimpleName().contentEquals(name));
        }

        @Override
        public Void visitImport(ImportTree tree, Void none) {
            imports.add(tree.getQualifiedIdentifier().toString());
            return super.visitImport(tree, none);
        }

        @Override
        public Void visitClass(ClassTree tree, Void none) {
            classes.add(here());
            for (Tree member : tree.getMembers()) {
                staticBlocks += member.getKind() == Tree.Kind.BLOCK ? 1 : 0;
            }
            return super.visitClass(tree, none);
        }

        @Override
        public Void visitMethod(MethodTree tree, Void none) {
            Element found = here();
            methods.add(found);
            method = nameOf(found);
            calls.put(method, new TreeSet<>());
            parameters.put(method, tree.getParameters().size());
            lines.put(method, linesOf(tree));
            noteType(found.asType().toString().replaceAll("^\\(.*\\)", ""));
            super.visitMethod(tree, none);
            method = "";
            return none;
        }

        @Override
        public Void visitVariable(VariableTree tree, Void none) {
            Element found = here();
            if (found.getKind() == ElementKind.FIELD) {
                fields.add(found);
            }
            noteType(found.asType().toString());
            return super.visitVariable(tree, none);
        }

        @Override
        public Void visitMethodInvocation(MethodInvocationTree tree, Void none) {
            noteCall(here());
            return super.visitMethodInvocation(tree, none);
        }

        @Override
        public Void visitNewClass(NewClassTree tree, Void none) {
            noteCall(here());
            noteMaking(tree);
            return super.visitNewClass(tree, none);
        }

        @Override
        public Void visitNewArray(NewArrayTree tree, Void none) {
            noteMaking(tree);
            return super.visitNewArray(tree, none);
        }

        @Override
        public Void visitBinary(BinaryTree tree, Void none) {
            boolean declared = trees.getTypeMirror(getCurrentPath()).getKind() == TypeKind.DECLARED;
            textJoins += declared ? 1 : 0;
            return super.visitBinary(tree, none);
        }

        @Override
        public Void visitLambdaExpression(LambdaExpressionTree tree, Void none) {
            return noteForm(tree);
        }

        @Override
        public Void visitMemberReference(MemberReferenceTree tree, Void none) {
            return noteForm(tree);
        }

        @Override
        public Void visitThrow(ThrowTree tree, Void none) {
            return noteForm(tree);
        }

        @Override
        public Void visitTry(TryTree tree, Void none) {
            return noteForm(tree);
        }

        @Override
        public Void visitSynchronized(SynchronizedTree tree, Void none) {
            return noteForm(tree);
        }

        @Override
        public Void visitAssert(AssertTree tree, Void none) {
            return noteForm(tree);
        }

        @Override
        public Void visitInstanceOf(InstanceOfTree tree, Void none) {
            return noteForm(tree);
        }

        private Element here() {
            return trees.getElement(getCurrentPath());
        }

        private static String nameOf(Element called) {
            return called.getEnclosingElement() + "." + called.toString();
        }

        private void noteType(String type) {
            if (!type.equals("void")) {
                types.add(type);
            }
        }

        private void noteCall(Element called) {
            String name = nameOf(called);
            if (!name.startsWith("WalkAligner")) {
                // The compiler names some methods of StringBuilder by the hidden class above it.
                libraryCalls.add(name.replace("AbstractStringBuilder", "StringBuilder"));
            } else if (!method.isEmpty()) {
                calls.get(method).add(name);
            }
        }

        private void noteMaking(Tree tree) {
            if (!method.isEmpty()) {
                madeInMethods.add(method + ": " + tree);
            }
        }

        private Void noteForm(Tree tree) {
            forms.add(method + ": " + tree.getKind());
            return null;
        }

        private long linesOf(MethodTree tree) {
            SourcePositions positions = trees.getSourcePositions();
            long end = positions.getEndPosition(unit, tree);
            // A constructor that the compiler has put in has no end.
            return end < 0 ? 0 : lineAt(end) - lineAt(positions.getStartPosition(unit, tree)) + 1;
        }

        private long lineAt(long position) {
            return unit.getLineMap().getLineNumber(position);
        }
    }
}
