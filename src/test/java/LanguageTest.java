import com.sun.source.tree.AssertTree;
import com.sun.source.tree.BinaryTree;
import com.sun.source.tree.ClassTree;
import com.sun.source.tree.CompilationUnitTree;
import com.sun.source.tree.CompoundAssignmentTree;
import com.sun.source.tree.DoWhileLoopTree;
import com.sun.source.tree.EnhancedForLoopTree;
import com.sun.source.tree.ExpressionTree;
import com.sun.source.tree.ForLoopTree;
import com.sun.source.tree.LambdaExpressionTree;
import com.sun.source.tree.MemberReferenceTree;
import com.sun.source.tree.MethodInvocationTree;
import com.sun.source.tree.MethodTree;
import com.sun.source.tree.NewClassTree;
import com.sun.source.tree.ParenthesizedTree;
import com.sun.source.tree.SynchronizedTree;
import com.sun.source.tree.ThrowTree;
import com.sun.source.tree.Tree;
import com.sun.source.tree.TryTree;
import com.sun.source.tree.TypeCastTree;
import com.sun.source.tree.VariableTree;
import com.sun.source.tree.WhileLoopTree;
import com.sun.source.util.JavacTask;
import com.sun.source.util.TreePath;
import com.sun.source.util.TreePathScanner;
import com.sun.source.util.Trees;
import java.nio.file.Path;
import java.util.ArrayList;
import java.util.HashMap;
import java.util.HashSet;
import java.util.List;
import java.util.Map;
import java.util.Set;
import java.util.TreeSet;
import javax.lang.model.element.Element;
import javax.lang.model.element.Modifier;
import javax.lang.model.element.TypeElement;
import javax.lang.model.type.ArrayType;
import javax.lang.model.type.TypeKind;
import javax.lang.model.type.TypeMirror;
import javax.tools.JavaCompiler;
import javax.tools.StandardJavaFileManager;
import javax.tools.ToolProvider;

/** The class keeps to ../shared/LANGUAGE.md: what its trees show of each rule, by the rule's number. */
public final class LanguageTest {
    // What the class uses of rule 4's list; a name more must stand in that list first.
    private static final Set<String> LIBRARY = Set.of("String.length", "String.charAt", "Math.max", "Math.min", "Math.abs",
        "Integer.bitCount", "System.arraycopy");
    private static final Set<String> THROWN = Set.of("IllegalArgumentException", "NoSuchElementException");
    private static final int MOST_CLASSES = 12;
    private static final int MOST_FIELDS = 20;
    private static final int MOST_PARAMETERS = 7;
    private static final int MOST_LINES = 60;
    private static final int DEEPEST = 8;

    private final CompilationUnitTree unit;
    private final Trees trees;
    private final Map<Element, Set<Element>> calls = new HashMap<>();
    private int classes = 0;

    private LanguageTest(CompilationUnitTree unit, Trees trees) {
        this.unit = unit;
        this.trees = trees;
    }

    public static void main(String[] args) throws Exception {
        JavaCompiler compiler = ToolProvider.getSystemJavaCompiler();
        try (StandardJavaFileManager files = compiler.getStandardFileManager(null, null, null)) {
            JavacTask task = (JavacTask) compiler.getTask(null, files, null, List.of("-proc:none", "-Xlint:none"), null,
                files.getJavaFileObjects(Path.of("src/main/java/MarshBells.java")));
            CompilationUnitTree unit = task.parse().iterator().next();
            task.analyze();
            new LanguageTest(unit, Trees.instance(task)).look();
        }
        Check.end();
    }

    private void look() {
        Check.same("no package line", unit.getPackageName() == null, true);
        Check.same("one class on top", unit.getTypeDecls().size(), 1);
        new Scanner().scan(unit, null);
        holds("11: " + classes + " classes", classes <= MOST_CLASSES);
        depthOfCalls();
    }

    private static void holds(String rule, boolean held) {
        Check.same("rule " + rule, held, true);
    }

    private String at(Tree tree) {
        long start = trees.getSourcePositions().getStartPosition(unit, tree);
        return " (line " + unit.getLineMap().getLineNumber(start) + ")";
    }

    private long lines(Tree tree) {
        long start = trees.getSourcePositions().getStartPosition(unit, tree);
        long end = trees.getSourcePositions().getEndPosition(unit, tree);
        return unit.getLineMap().getLineNumber(end) - unit.getLineMap().getLineNumber(start) + 1;
    }

    private static boolean isOwn(Element e) {
        for (Element around = e; around != null; around = around.getEnclosingElement()) {
            if (around.getSimpleName().contentEquals("MarshBells")) return true;
        }
        return false;
    }

    private final class Scanner extends TreePathScanner<Void, Void> {
        private Element method = null;

        private Element element() {
            return trees.getElement(getCurrentPath());
        }

        private boolean isText(Tree tree) {
            TypeMirror type = trees.getTypeMirror(new TreePath(getCurrentPath(), tree));
            return type != null && type.toString().equals("java.lang.String");
        }

        @Override
        public Void visitClass(ClassTree tree, Void none) {
            classes++;
            TypeElement type = (TypeElement) element();
            boolean inside = type.getEnclosingElement() instanceof TypeElement;
            holds("1: static" + at(tree), !inside || type.getModifiers().contains(Modifier.STATIC));
            long fields = type.getEnclosedElements().stream()
                .filter(e -> e.getKind().isField() && !e.getModifiers().contains(Modifier.STATIC)).count();
            holds("11: " + fields + " fields" + at(tree), fields <= MOST_FIELDS);
            holds("2: no class within a method" + at(tree), method == null);
            return super.visitClass(tree, none);
        }

        @Override
        public Void visitMethod(MethodTree tree, Void none) {
            method = element();
            calls.put(method, new HashSet<>());
            holds("11: parameters" + at(tree), tree.getParameters().size() <= MOST_PARAMETERS);
            holds("11: " + lines(tree) + " lines" + at(tree), lines(tree) <= MOST_LINES);
            super.visitMethod(tree, none);
            method = null;
            return null;
        }

        @Override
        public Void visitVariable(VariableTree tree, Void none) {
            Element variable = element();
            holds("3: " + variable.asType() + at(tree), isAllowed(variable.asType(), 0));
            if (variable.getModifiers().contains(Modifier.STATIC)) {
                holds("5: final" + at(tree), variable.getModifiers().contains(Modifier.FINAL));
                holds("5: int alone, so far" + at(tree), variable.asType().getKind() == TypeKind.INT);
            }
            return super.visitVariable(tree, none);
        }

        private boolean isAllowed(TypeMirror type, int dimensions) {
            if (type instanceof ArrayType array) return dimensions == 0 && isAllowed(array.getComponentType(), 1);
            switch (type.getKind()) {
                case INT: case LONG: case BOOLEAN: case CHAR: return true;
                default: return type.toString().startsWith("MarshBells") || dimensions == 0
                    && type.toString().equals("java.lang.String");
            }
        }

        @Override
        public Void visitMethodInvocation(MethodInvocationTree tree, Void none) {
            Element called = element();
            if (isOwn(called)) {
                if (method != null) calls.get(method).add(called);
            } else if (!called.getSimpleName().contentEquals("<init>")) {
                String name = called.getEnclosingElement().getSimpleName() + "." + called.getSimpleName();
                holds("4: " + name + at(tree), LIBRARY.contains(name));
            }
            return super.visitMethodInvocation(tree, none);
        }

        @Override
        public Void visitNewClass(NewClassTree tree, Void none) {
            Element made = element();
            String name = made.getEnclosingElement().getSimpleName().toString();
            holds("4, 6: new " + name + at(tree), isOwn(made) || THROWN.contains(name));
            if (isOwn(made) && method != null) {
                holds("12: made in constructors alone" + at(tree), method.getSimpleName().contentEquals("<init>"));
            }
            return super.visitNewClass(tree, none);
        }

        @Override
        public Void visitThrow(ThrowTree tree, Void none) {
            holds("6: throw new" + at(tree), tree.getExpression().getKind() == Tree.Kind.NEW_CLASS);
            holds("6: no throw in a constructor" + at(tree), !method.getSimpleName().contentEquals("<init>"));
            return super.visitThrow(tree, none);
        }

        @Override
        public Void visitBinary(BinaryTree tree, Void none) {
            boolean text = isText(tree.getLeftOperand()) || isText(tree.getRightOperand());
            holds("6, 10: no + or == of texts" + at(tree), !text);
            return super.visitBinary(tree, none);
        }

        @Override
        public Void visitCompoundAssignment(CompoundAssignmentTree tree, Void none) {
            holds("10: no += of texts" + at(tree), !isText(tree.getVariable()));
            return super.visitCompoundAssignment(tree, none);
        }

        @Override
        public Void visitForLoop(ForLoopTree tree, Void none) {
            boolean bound = tree.getCondition() != null && tree.getUpdate().size() == 1;
            holds("9: a counter and a bound" + at(tree), bound && isComparison(tree.getCondition()));
            return super.visitForLoop(tree, none);
        }

        @Override
        public Void visitWhileLoop(WhileLoopTree tree, Void none) {
            holds("9: a bound" + at(tree), isComparison(tree.getCondition()));
            return super.visitWhileLoop(tree, none);
        }

        /** A number against a bound, perhaps with something more that must hold. */
        private boolean isComparison(ExpressionTree condition) {
            switch (condition.getKind()) {
                case PARENTHESIZED: return isComparison(((ParenthesizedTree) condition).getExpression());
                case LESS_THAN: case LESS_THAN_EQUAL: case GREATER_THAN: case GREATER_THAN_EQUAL: return true;
                case CONDITIONAL_AND: return isComparison(((BinaryTree) condition).getLeftOperand())
                    || isComparison(((BinaryTree) condition).getRightOperand());
                default: return false;
            }
        }

        @Override
        public Void visitTry(TryTree tree, Void none) {
            return not("6: no try, so far", tree);
        }

        @Override
        public Void visitTypeCast(TypeCastTree tree, Void none) {
            return not("6: no cast, so far", tree);
        }

        @Override
        public Void visitLambdaExpression(LambdaExpressionTree tree, Void none) {
            return not("2: no lambda", tree);
        }

        @Override
        public Void visitMemberReference(MemberReferenceTree tree, Void none) {
            return not("2: no method reference", tree);
        }

        @Override
        public Void visitDoWhileLoop(DoWhileLoopTree tree, Void none) {
            return not("9: no do, so far", tree);
        }

        @Override
        public Void visitEnhancedForLoop(EnhancedForLoopTree tree, Void none) {
            return not("12: no iterator, so far", tree);
        }

        @Override
        public Void visitSynchronized(SynchronizedTree tree, Void none) {
            return not("6: no synchronized", tree);
        }

        @Override
        public Void visitAssert(AssertTree tree, Void none) {
            return not("6: no assert", tree);
        }

        private Void not(String rule, Tree tree) {
            holds(rule + at(tree), false);
            return null;
        }
    }

    // ---------------------------------------------------------------- rules 8 and 11: how deep calls go

    private final Map<Element, Set<Element>> reached = new HashMap<>();
    private final Map<Element, List<String>> longest = new HashMap<>();

    private Set<Element> reachedFrom(Element start) {
        return reached.computeIfAbsent(start, s -> {
            Set<Element> all = new HashSet<>();
            List<Element> open = new ArrayList<>(calls.getOrDefault(s, Set.of()));
            while (!open.isEmpty()) {
                Element next = open.remove(open.size() - 1);
                if (all.add(next)) open.addAll(calls.getOrDefault(next, Set.of()));
            }
            return all;
        });
    }

    /** Methods that call one another count as one. */
    private boolean isSameRing(Element a, Element b) {
        return a == b || reachedFrom(a).contains(b) && reachedFrom(b).contains(a);
    }

    private List<String> longestFrom(Element start) {
        List<String> known = longest.get(start);
        if (known != null) return known;
        Set<Element> ring = new HashSet<>(Set.of(start));
        for (Element other : reachedFrom(start)) {
            if (isSameRing(start, other)) ring.add(other);
        }
        List<String> best = new ArrayList<>();
        for (Element in : ring) {
            for (Element next : calls.getOrDefault(in, Set.of())) {
                if (!ring.contains(next) && longestFrom(next).size() > best.size()) best = longestFrom(next);
            }
        }
        List<String> row = new ArrayList<>(List.of(start.getSimpleName().toString()));
        row.addAll(best);
        longest.put(start, row);
        return row;
    }

    private void depthOfCalls() {
        Set<String> rings = new TreeSet<>();
        for (Element method : calls.keySet()) {
            List<String> row = longestFrom(method);
            holds("11: " + row, row.size() <= DEEPEST);
            if (reachedFrom(method).contains(method)) rings.add(method.getSimpleName().toString());
        }
        // A new one needs its depth as an argument, and a look at how many calls stand open at once.
        Check.same("rule 8: methods that call one another: " + rings, rings.equals(Set.of("readExpr", "readAnd", "readNot",
            "readTest", "readSum", "readProduct", "readPart", "tryFrom", "tryGapsOf")), true);
    }
}
