import com.sun.source.tree.AssignmentTree;
import com.sun.source.tree.ClassTree;
import com.sun.source.tree.CompilationUnitTree;
import com.sun.source.tree.CompoundAssignmentTree;
import com.sun.source.tree.ExpressionTree;
import com.sun.source.tree.MethodInvocationTree;
import com.sun.source.tree.MethodTree;
import com.sun.source.tree.Tree;
import com.sun.source.tree.UnaryTree;
import com.sun.source.tree.VariableTree;
import com.sun.source.util.JavacTask;
import com.sun.source.util.SourcePositions;
import com.sun.source.util.TreePathScanner;
import com.sun.source.util.Trees;
import java.nio.file.Path;
import java.util.EnumSet;
import java.util.Map;
import java.util.Set;
import java.util.TreeMap;
import java.util.TreeSet;
import javax.lang.model.element.Element;
import javax.lang.model.element.ElementKind;
import javax.lang.model.element.ExecutableElement;
import javax.lang.model.element.Modifier;
import javax.tools.JavaCompiler;
import javax.tools.StandardJavaFileManager;
import javax.tools.ToolProvider;

/** Rules of LANGUAGE.md that the compiler's own tree of the class shows; stricter than they are where the class can be. */
public final class LanguageTest {
    private static final Set<Tree.Kind> FORBIDDEN = EnumSet.of(
            Tree.Kind.LAMBDA_EXPRESSION, Tree.Kind.MEMBER_REFERENCE, Tree.Kind.THROW, Tree.Kind.TRY, Tree.Kind.CATCH,
            Tree.Kind.SYNCHRONIZED, Tree.Kind.ASSERT, Tree.Kind.IMPORT, Tree.Kind.PACKAGE, Tree.Kind.STRING_LITERAL,
            Tree.Kind.ANNOTATION, Tree.Kind.NULL_LITERAL, Tree.Kind.TYPE_CAST);
    private static final Set<String> PLAIN = Set.of("int", "long", "boolean", "int[]");
    private static final Set<String> LIBRARY = Set.of("java.lang.Math.min", "java.lang.Math.max", "java.lang.Math.abs",
            "java.lang.Math.floorMod");

    public static void main(String[] args) throws Exception {
        Path source = Path.of(args.length > 0 ? args[0] : "src/main/java/ChestnutSticks.java");
        JavaCompiler javac = ToolProvider.getSystemJavaCompiler();
        try (StandardJavaFileManager files = javac.getStandardFileManager(null, null, null)) {
            JavacTask task = (JavacTask) javac.getTask(null, files, null, null, null, files.getJavaFileObjects(source));
            CompilationUnitTree unit = task.parse().iterator().next();
            task.analyze();
            Due.that("one class in the file", unit.getTypeDecls().size() == 1);
            Rules rules = new Rules(Trees.instance(task), unit);
            rules.scan(unit, null);
            Due.that("rule 11: some twelve classes", rules.classes <= 12);
            rules.depths();
        }
        Due.end("LanguageTest");
    }

    private static final class Rules extends TreePathScanner<Void, Void> {
        private final Trees trees;
        private final CompilationUnitTree unit;
        private final Map<String, Set<String>> calls = new TreeMap<>();
        private String method = "";
        private boolean inMaker = false;
        private int classes = 0;

        Rules(Trees trees, CompilationUnitTree unit) {
            this.trees = trees;
            this.unit = unit;
        }

        @Override
        public Void scan(Tree tree, Void none) {
            if (tree != null) {
                boolean isCast = tree.getKind() == Tree.Kind.TYPE_CAST;
                boolean isNarrowing = isCast && (tree.toString().startsWith("(byte)") || tree.toString().startsWith("(short)"));
                Due.that("rules 2 to 6: " + tree.getKind() + " in " + method,
                        isNarrowing || !FORBIDDEN.contains(tree.getKind()));
                boolean makes = tree.getKind() == Tree.Kind.NEW_CLASS || tree.getKind() == Tree.Kind.NEW_ARRAY;
                Due.that("rule 12: " + method + " makes an object", !makes || method.isEmpty() || inMaker);
            }
            return super.scan(tree, none);
        }

        @Override
        public Void visitClass(ClassTree tree, Void none) {
            classes++;
            boolean isInside = !tree.getSimpleName().contentEquals("ChestnutSticks");
            Set<Modifier> modifiers = tree.getModifiers().getFlags();
            Due.that("rule 2: " + tree.getSimpleName() + " is static", !isInside || modifiers.contains(Modifier.STATIC));
            int fields = 0;
            for (Tree member : tree.getMembers()) {
                Due.that("rule 5: a block in " + tree.getSimpleName(), member.getKind() != Tree.Kind.BLOCK);
                if (member instanceof VariableTree field) {
                    fields += isStatic(field) ? 0 : 1;
                    boolean isFinal = field.getModifiers().getFlags().contains(Modifier.FINAL);
                    Due.that("rule 5: " + field.getName() + " is final", !isStatic(field) || isFinal);
                }
            }
            Due.that("rule 11: some twenty fields in " + tree.getSimpleName(), fields <= 20);
            return super.visitClass(tree, none);
        }

        private static boolean isStatic(VariableTree field) {
            return field.getModifiers().getFlags().contains(Modifier.STATIC);
        }

        @Override
        public Void visitVariable(VariableTree tree, Void none) {
            String type = String.valueOf(tree.getType());
            Element of = trees.getElement(trees.getPath(unit, tree.getType()));
            boolean isOwn = of != null && of.toString().startsWith("ChestnutSticks.");
            Due.that("rule 3: " + tree.getName() + " is of " + type, PLAIN.contains(type) || isOwn);
            return super.visitVariable(tree, none);
        }

        @Override
        public Void visitMethod(MethodTree tree, Void none) {
            Element element = trees.getElement(getCurrentPath());
            method = nameOf(element);
            inMaker = element.getKind() == ElementKind.CONSTRUCTOR;
            calls.put(method, new TreeSet<>());
            Due.that("rule 11: seven parameters of " + method, tree.getParameters().size() <= 7);
            SourcePositions places = trees.getSourcePositions();
            long first = unit.getLineMap().getLineNumber(Math.max(0, places.getStartPosition(unit, tree)));
            long last = unit.getLineMap().getLineNumber(Math.max(0, places.getEndPosition(unit, tree) - 1));
            Due.that("rule 11: sixty lines of " + method, last - first < 60);
            super.visitMethod(tree, none);
            method = "";
            inMaker = false;
            return null;
        }

        @Override
        public Void visitMethodInvocation(MethodInvocationTree tree, Void none) {
            Element called = trees.getElement(getCurrentPath());
            if (called instanceof ExecutableElement && called.getKind() == ElementKind.METHOD) {
                String name = nameOf(called);
                boolean isOwn = name.startsWith("ChestnutSticks");
                Due.that("rule 4: " + method + " calls " + name, isOwn || LIBRARY.contains(name));
                if (isOwn && !method.isEmpty()) {
                    calls.get(method).add(name);
                }
            }
            return super.visitMethodInvocation(tree, none);
        }

        @Override
        public Void visitAssignment(AssignmentTree tree, Void none) {
            keepsConstants(tree.getVariable());
            return super.visitAssignment(tree, none);
        }

        @Override
        public Void visitCompoundAssignment(CompoundAssignmentTree tree, Void none) {
            keepsConstants(tree.getVariable());
            return super.visitCompoundAssignment(tree, none);
        }

        @Override
        public Void visitUnary(UnaryTree tree, Void none) {
            boolean steps = tree.toString().contains("++") || tree.toString().contains("--");
            if (steps) {
                keepsConstants(tree.getExpression());
            }
            return super.visitUnary(tree, none);
        }

        /** Constants are the only names in capitals, and static arrays are never written into. */
        private void keepsConstants(ExpressionTree target) {
            Due.that("rule 5: " + method + " writes to " + target, !target.toString().matches("[A-Z_]+(\\[.*)?"));
        }

        private static String nameOf(Element called) {
            return called.getEnclosingElement() + "." + called.getSimpleName();
        }

        /** No class of the file is extended, so what is written is what is called. */
        void depths() {
            for (String name : calls.keySet()) {
                int deep = depthOf(name, 0);
                Due.that("rule 11: " + name + " goes " + deep + " deep", deep <= 8);
            }
        }

        private int depthOf(String name, int above) {
            if (above > 40) {
                return 41;
            }
            int deepest = 0;
            for (String called : calls.getOrDefault(name, Set.of())) {
                deepest = Math.max(deepest, depthOf(called, above + 1));
            }
            return 1 + deepest;
        }
    }
}
