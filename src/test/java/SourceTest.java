import com.sun.source.tree.ArrayAccessTree;
import com.sun.source.tree.AssignmentTree;
import com.sun.source.tree.BinaryTree;
import com.sun.source.tree.BlockTree;
import com.sun.source.tree.ClassTree;
import com.sun.source.tree.CompilationUnitTree;
import com.sun.source.tree.CompoundAssignmentTree;
import com.sun.source.tree.ExpressionTree;
import com.sun.source.tree.IdentifierTree;
import com.sun.source.tree.LineMap;
import com.sun.source.tree.MemberSelectTree;
import com.sun.source.tree.MethodInvocationTree;
import com.sun.source.tree.MethodTree;
import com.sun.source.tree.NewArrayTree;
import com.sun.source.tree.NewClassTree;
import com.sun.source.tree.StatementTree;
import com.sun.source.tree.Tree;
import com.sun.source.tree.UnaryTree;
import com.sun.source.tree.VariableTree;
import com.sun.source.util.JavacTask;
import com.sun.source.util.TreePathScanner;
import com.sun.source.util.Trees;
import java.io.IOException;
import java.nio.file.Path;
import java.util.ArrayList;
import java.util.EnumSet;
import java.util.HashMap;
import java.util.HashSet;
import java.util.LinkedHashMap;
import java.util.LinkedHashSet;
import java.util.List;
import java.util.Map;
import java.util.Set;
import javax.lang.model.element.Element;
import javax.lang.model.element.ElementKind;
import javax.lang.model.element.ExecutableElement;
import javax.lang.model.element.Modifier;
import javax.lang.model.element.TypeElement;
import javax.lang.model.type.TypeKind;
import javax.lang.model.type.TypeMirror;
import javax.tools.JavaCompiler;
import javax.tools.StandardJavaFileManager;
import javax.tools.ToolProvider;

/** Those rules of LANGUAGE.md that only the compiler's own tree of the class can show. */
public final class SourceTest {
    private static final int MOST_DEEP = 8, MOST_OPEN = 300, MOST_LINES = 60, MOST_PARAMETERS = 7;
    /** How often the rule's parser can call itself: an open parenthesis each, and once ahead of them. */
    private static final int MOST_TURNS = 9;
    private static final Set<String> LIBRARY = Set.of("String.length", "String.charAt", "String.isEmpty", "String.equals",
        "String.indexOf", "String.substring", "String.toCharArray", "System.arraycopy", "Arrays.copyOf", "Arrays.copyOfRange",
        "Arrays.fill", "Math.floorMod", "Math.floorDiv", "Math.max", "Math.min", "Math.abs", "Integer.bitCount",
        "Long.bitCount", "Integer.compare", "Long.compare");
    private static final Set<Tree.Kind> OUTSIDE = EnumSet.of(Tree.Kind.LAMBDA_EXPRESSION, Tree.Kind.MEMBER_REFERENCE,
        Tree.Kind.THROW, Tree.Kind.TRY, Tree.Kind.SYNCHRONIZED, Tree.Kind.ASSERT, Tree.Kind.ANNOTATION, Tree.Kind.IMPORT,
        Tree.Kind.UNION_TYPE, Tree.Kind.YIELD, Tree.Kind.SWITCH_EXPRESSION);
    private static final Set<TypeKind> NUMBERS = EnumSet.of(TypeKind.INT, TypeKind.LONG, TypeKind.SHORT, TypeKind.BYTE,
        TypeKind.CHAR, TypeKind.BOOLEAN, TypeKind.DOUBLE, TypeKind.FLOAT);
    private static int wrong;

    public static void main(String[] args) throws IOException {
        JavaCompiler compiler = ToolProvider.getSystemJavaCompiler();
        try (StandardJavaFileManager files = compiler.getStandardFileManager(null, null, null)) {
            JavacTask task = (JavacTask) compiler.getTask(null, files, null, List.of("-proc:none"), null,
                files.getJavaFileObjects(Path.of("src/main/java/BogBoards.java")));
            CompilationUnitTree unit = task.parse().iterator().next();
            task.analyze();
            Look look = new Look(unit, Trees.instance(task));
            look.scan(unit, null);
            look.depths();
            must(look.calls.size() > 100, "the tree of the class was not looked at: " + look.calls.size() + " methods");
        }
        System.out.println(wrong == 0 ? "the tree of the class keeps to the language" : wrong + " places are outside the language");
        if (wrong != 0) {
            System.exit(1);
        }
    }

    private static void must(boolean holds, String what) {
        if (!holds) {
            wrong++;
            System.out.println(what);
        }
    }

    /** Goes through the tree once and keeps who calls whom. */
    private static final class Look extends TreePathScanner<Void, Void> {
        private final CompilationUnitTree unit;
        private final Trees trees;
        private final LineMap lines;
        private final Map<Element, Set<Element>> calls = new LinkedHashMap<>();
        private Element method;

        Look(CompilationUnitTree unit, Trees trees) {
            this.unit = unit;
            this.trees = trees;
            this.lines = unit.getLineMap();
        }

        private long startLine(Tree tree) {
            return lines.getLineNumber(trees.getSourcePositions().getStartPosition(unit, tree));
        }

        private long endLine(Tree tree) {
            return lines.getLineNumber(trees.getSourcePositions().getEndPosition(unit, tree));
        }

        private Element elementOf(Tree tree) {
            return trees.getElement(trees.getPath(unit, tree));
        }

        private TypeMirror typeOf(Tree tree) {
            return trees.getTypeMirror(trees.getPath(unit, tree));
        }

        private boolean isText(Tree tree) {
            TypeMirror type = typeOf(tree);
            return type != null && "java.lang.String".equals(type.toString());
        }

        @Override
        public Void scan(Tree tree, Void nothing) {
            if (tree != null) {
                must(!OUTSIDE.contains(tree.getKind()), "rules 2, 4, 6: " + tree.getKind() + " in line " + startLine(tree));
            }
            return super.scan(tree, nothing);
        }

        @Override
        public Void visitClass(ClassTree tree, Void nothing) {
            Element parent = elementOf(tree).getEnclosingElement();
            boolean isIn = parent instanceof TypeElement;
            must(tree.getSimpleName().length() > 0 && (isIn || parent.getKind() == ElementKind.PACKAGE),
                "rule 2: a local class in line " + startLine(tree));
            must(!isIn || tree.getModifiers().getFlags().contains(Modifier.STATIC),
                "rule 2: a class that is not static in line " + startLine(tree));
            for (Tree member : tree.getMembers()) {
                must(!(member instanceof BlockTree), "rule 5: an initialiser block in line " + startLine(member));
            }
            return super.visitClass(tree, nothing);
        }

        @Override
        public Void visitMethod(MethodTree tree, Void nothing) {
            method = elementOf(tree);
            calls.computeIfAbsent(method, key -> new LinkedHashSet<>());
            must(endLine(tree) - startLine(tree) < MOST_LINES, "rule 11: long: " + method);
            must(tree.getParameters().size() <= MOST_PARAMETERS, "rule 11: too many parameters: " + method);
            Void answer = super.visitMethod(tree, nothing);
            method = null;
            return answer;
        }

        @Override
        public Void visitVariable(VariableTree tree, Void nothing) {
            TypeMirror type = typeOf(tree);
            String told = type.toString();
            boolean isOwn = told.startsWith("BogBoards");
            must(isOwn || told.equals("java.lang.String") || NUMBERS.contains(type.getKind()) || told.matches("[a-z]+\\[\\]"),
                "rule 3: the type " + told + " in line " + startLine(tree));
            Element variable = elementOf(tree);
            if (variable.getKind() == ElementKind.FIELD && variable.getModifiers().contains(Modifier.STATIC)) {
                must(variable.getModifiers().contains(Modifier.FINAL), "rule 5: not final: " + variable);
                must(!isOwn, "rule 5: an object of a class: " + variable);
            }
            return super.visitVariable(tree, nothing);
        }

        @Override
        public Void visitMethodInvocation(MethodInvocationTree tree, Void nothing) {
            called((ExecutableElement) elementOf(tree.getMethodSelect()), startLine(tree));
            return super.visitMethodInvocation(tree, nothing);
        }

        @Override
        public Void visitNewClass(NewClassTree tree, Void nothing) {
            called((ExecutableElement) elementOf(tree), startLine(tree));
            madeOnce(tree);
            must(tree.getClassBody() == null, "rule 2: an anonymous class in line " + startLine(tree));
            return super.visitNewClass(tree, nothing);
        }

        @Override
        public Void visitNewArray(NewArrayTree tree, Void nothing) {
            madeOnce(tree);
            return super.visitNewArray(tree, nothing);
        }

        /** More than the rules ask: all calls live in one room, so that nothing is made but with the object itself. */
        private void madeOnce(Tree tree) {
            must(method == null || method.getKind() == ElementKind.CONSTRUCTOR, "room: made in a call, line " + startLine(tree));
        }

        private void called(ExecutableElement target, long line) {
            TypeElement owner = (TypeElement) target.getEnclosingElement();
            if (owner.getQualifiedName().toString().startsWith("BogBoards")) {
                if (method != null) {
                    calls.get(method).add(target);
                }
                return;
            }
            String name = owner.getSimpleName() + "." + target.getSimpleName();
            must(LIBRARY.contains(name) || name.equals("Object.<init>"), "rule 4: " + name + " in line " + line);
        }

        @Override
        public Void visitBinary(BinaryTree tree, Void nothing) {
            boolean hasText = isText(tree.getLeftOperand()) || isText(tree.getRightOperand());
            must(!hasText, "rules 6, 10: " + tree.getKind() + " of texts in line " + startLine(tree));
            return super.visitBinary(tree, nothing);
        }

        @Override
        public Void visitAssignment(AssignmentTree tree, Void nothing) {
            changed(tree.getVariable());
            return super.visitAssignment(tree, nothing);
        }

        @Override
        public Void visitCompoundAssignment(CompoundAssignmentTree tree, Void nothing) {
            changed(tree.getVariable());
            must(!isText(tree.getVariable()), "rule 10: texts joined in line " + startLine(tree));
            return super.visitCompoundAssignment(tree, nothing);
        }

        @Override
        public Void visitUnary(UnaryTree tree, Void nothing) {
            boolean isChange = tree.getKind().name().contains("CREMENT");
            if (isChange) {
                changed(tree.getExpression());
            }
            return super.visitUnary(tree, nothing);
        }

        private void changed(ExpressionTree target) {
            if (target instanceof ArrayAccessTree) {
                ExpressionTree array = ((ArrayAccessTree) target).getExpression();
                boolean isNamed = array instanceof IdentifierTree || array instanceof MemberSelectTree;
                must(isNamed && !elementOf(array).getModifiers().contains(Modifier.STATIC),
                    "rule 5: a row of constants is changed in line " + startLine(target));
            }
        }

        @Override
        public Void visitBlock(BlockTree tree, Void nothing) {
            for (StatementTree statement : tree.getStatements()) {
                must(!(statement instanceof ClassTree), "rule 2: a local class in line " + startLine(statement));
            }
            return super.visitBlock(tree, nothing);
        }

        /** Rule 11: how deep calls go; rule 8: what calls itself. */
        private void depths() {
            Map<Element, Integer> known = new HashMap<>();
            Set<Element> turning = new HashSet<>();
            for (Element e : calls.keySet()) {
                if (reached(e).contains(e)) {
                    turning.add(e);
                    must(e.getModifiers().contains(Modifier.PRIVATE), "rule 8: calls itself and is not private: " + e);
                    must(((ExecutableElement) e).getParameters().size() > 0, "rule 8: has no guard on the depth: " + e);
                }
            }
            for (Element e : calls.keySet()) {
                int deep = depthOf(e, turning, known);
                must(deep <= MOST_DEEP, "rule 11: calls go " + deep + " deep from " + e.getEnclosingElement() + "." + e);
            }
            must(turning.size() * MOST_TURNS + 2 * MOST_DEEP < MOST_OPEN, "rule 8: too many calls stand open");
        }

        private Set<Element> reached(Element from) {
            Set<Element> all = new LinkedHashSet<>();
            List<Element> left = new ArrayList<>(calls.get(from));
            while (!left.isEmpty()) {
                Element e = left.remove(left.size() - 1);
                if (all.add(e) && calls.containsKey(e)) {
                    left.addAll(calls.get(e));
                }
            }
            return all;
        }

        /** What calls itself is left out: rule 11 speaks of calls that are no recursion. */
        private int depthOf(Element e, Set<Element> turning, Map<Element, Integer> known) {
            if (known.containsKey(e)) {
                return known.get(e);
            }
            int deepest = 0;
            for (Element next : calls.getOrDefault(e, Set.of())) {
                if (!turning.contains(next)) {
                    deepest = Math.max(deepest, depthOf(next, turning, known));
                }
            }
            known.put(e, deepest + 1);
            return deepest + 1;
        }
    }
}
