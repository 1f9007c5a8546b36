import com.sun.source.tree.ArrayAccessTree;
import com.sun.source.tree.AssertTree;
import com.sun.source.tree.AssignmentTree;
import com.sun.source.tree.BinaryTree;
import com.sun.source.tree.ClassTree;
import com.sun.source.tree.CompilationUnitTree;
import com.sun.source.tree.CompoundAssignmentTree;
import com.sun.source.tree.DoWhileLoopTree;
import com.sun.source.tree.ExpressionTree;
import com.sun.source.tree.ForLoopTree;
import com.sun.source.tree.IdentifierTree;
import com.sun.source.tree.ImportTree;
import com.sun.source.tree.LambdaExpressionTree;
import com.sun.source.tree.LiteralTree;
import com.sun.source.tree.MemberReferenceTree;
import com.sun.source.tree.MethodInvocationTree;
import com.sun.source.tree.MethodTree;
import com.sun.source.tree.NewArrayTree;
import com.sun.source.tree.NewClassTree;
import com.sun.source.tree.PackageTree;
import com.sun.source.tree.SynchronizedTree;
import com.sun.source.tree.ThrowTree;
import com.sun.source.tree.Tree;
import com.sun.source.tree.TryTree;
import com.sun.source.tree.UnaryTree;
import com.sun.source.tree.VariableTree;
import com.sun.source.tree.WhileLoopTree;
import com.sun.source.util.JavacTask;
import com.sun.source.util.TreePath;
import com.sun.source.util.TreePathScanner;
import com.sun.source.util.Trees;
import java.io.IOException;
import java.nio.file.Files;
import java.nio.file.Path;
import java.util.ArrayList;
import java.util.HashMap;
import java.util.LinkedHashMap;
import java.util.LinkedHashSet;
import java.util.List;
import java.util.Map;
import java.util.Set;
import javax.lang.model.element.Element;
import javax.lang.model.element.ElementKind;
import javax.lang.model.element.Modifier;
import javax.lang.model.element.VariableElement;
import javax.lang.model.type.TypeMirror;
import javax.tools.JavaCompiler;
import javax.tools.StandardJavaFileManager;
import javax.tools.ToolProvider;

/**
 * The rules of LANGUAGE.md, by the tree that javac makes of the program; it is run from the project's folder.
 * Where the rules leave more than the program uses, the test leaves only what is used: it is easier to see.
 */
public final class LanguageTest {
    private static final Path PROGRAM = Path.of("src/main/java/HatOrders.java");
    private static final int LONGEST_METHOD = 60, MOST_PARAMETERS = 7, DEEPEST_CALLS = 8;
    private static final Set<String> PLAIN = Set.of("int", "long", "short", "byte", "char", "boolean", "double", "float");
    private static final Set<String> NUMBERS = Set.of("int", "long", "short", "byte", "char", "boolean");
    private static final Set<String> STATIC_ARRAYS = Set.of("int[]", "long[]", "char[]", "byte[]");
    private static final Set<String> STATIC_CONSTANTS = Set.of("int", "long", "boolean", "char", "java.lang.String");
    private static final Set<String> LIBRARY = Set.of("String.length", "String.charAt", "String.isEmpty", "String.equals",
        "String.indexOf", "String.substring", "String.toCharArray", "System.arraycopy", "Arrays.copyOf",
        "Arrays.copyOfRange", "Arrays.fill", "Integer.bitCount", "Integer.compare", "Integer.max", "Integer.min", "Math.max",
        "Math.min", "Math.abs", "Math.floorDiv", "Math.floorMod", "Object.<init>");
    private static final Check check = new Check();

    public static void main(String[] args) throws IOException {
        check.promise("LANGUAGE.md");
        plainSigns();
        JavaCompiler compiler = ToolProvider.getSystemJavaCompiler();
        StandardJavaFileManager files = compiler.getStandardFileManager(null, null, null);
        JavacTask task = (JavacTask) compiler.getTask(null, files, null, List.of("-proc:none"), null,
            files.getJavaFileObjects(PROGRAM.toFile()));
        List<CompilationUnitTree> units = new ArrayList<>();
        task.parse().forEach(units::add);
        task.analyze();
        check.due("one file", units.size(), 1);
        Reader reader = new Reader(Trees.instance(task), units.get(0));
        reader.scan(units.get(0), null);
        check.due("methods are found", reader.calls.size() > 80);
        check.due("rule 11: at most twelve classes", reader.classes <= 12);
        callsAreNotDeep(reader);
        check.finish("LanguageTest");
    }

    private static void plainSigns() throws IOException {
        String text = Files.readString(PROGRAM);
        boolean isPlain = true;
        for (int i = 0; i < text.length(); i++) {
            isPlain &= text.charAt(i) < 128 && text.charAt(i) != '\t';
        }
        check.due("rule 4: signs are plain", isPlain);
    }

    /** Of methods that come round to themselves the depth is carried, and stands for itself. */
    private static void callsAreNotDeep(Reader reader) {
        Map<Element, Integer> depths = new HashMap<>();
        for (Element method : reader.calls.keySet()) {
            int deep = depthOf(method, reader, new LinkedHashSet<>(), depths);
            check.due("rule 11: " + method + " goes " + deep + " deep", deep <= DEEPEST_CALLS);
        }
    }

    private static int depthOf(Element method, Reader reader, Set<Element> open, Map<Element, Integer> depths) {
        if (!open.add(method)) {
            check.due("rule 8: " + method + ", which comes round to itself, is private", isOf(method, Modifier.PRIVATE));
            check.due("rule 8: " + method + " carries its depth", reader.carriesDepth.contains(method));
            return 0;
        }
        Integer known = depths.get(method);
        int deepest = 0;
        if (known == null) {
            for (Element called : reader.calls.getOrDefault(method, Set.of())) {
                deepest = Math.max(deepest, depthOf(called, reader, open, depths));
            }
            depths.put(method, deepest + 1);
        }
        open.remove(method);
        return known == null ? deepest + 1 : known;
    }

    private static boolean isOf(Element element, Modifier modifier) {
        return element.getModifiers().contains(modifier);
    }

    /** Looks at each piece of the program once, and keeps who calls whom. */
    private static final class Reader extends TreePathScanner<Void, Void> {
        final Map<Element, Set<Element>> calls = new LinkedHashMap<>();
        final Set<Element> carriesDepth = new LinkedHashSet<>();
        int classes = 0;
        private final Trees trees;
        private final CompilationUnitTree unit;

        Reader(Trees trees, CompilationUnitTree unit) {
            this.trees = trees;
            this.unit = unit;
        }

        private Element here() {
            return trees.getElement(getCurrentPath());
        }

        private String at(Tree tree) {
            return " (line " + unit.getLineMap().getLineNumber(trees.getSourcePositions().getStartPosition(unit, tree)) + ")";
        }

        private void never(String rule, Tree tree) {
            check.due(rule + at(tree), false);
        }

        @Override
        public Void visitPackage(PackageTree tree, Void v) {
            never("no package line", tree);
            return super.visitPackage(tree, v);
        }

        @Override
        public Void visitImport(ImportTree tree, Void v) {
            String name = tree.getQualifiedIdentifier().toString();
            check.due("rule 4: import " + name, Set.of("java.util.Arrays", "java.util.ArrayList", "java.util.List").contains(name));
            return super.visitImport(tree, v);
        }

        @Override
        public Void visitClass(ClassTree tree, Void v) {
            boolean isOuter = getCurrentPath().getParentPath().getLeaf() == unit;
            boolean isInside = getCurrentPath().getParentPath().getLeaf() instanceof ClassTree;
            if (isOuter) {
                check.due("one public class", tree.getSimpleName().contentEquals("HatOrders"));
            } else {
                classes++;
                check.due("rule 2: " + tree.getSimpleName() + " is static" + at(tree), isInside && isOf(here(), Modifier.STATIC));
            }
            long own = tree.getMembers().stream().filter(LanguageTest::isOwnField).count();
            check.due("rule 11: fields of " + tree.getSimpleName(), own <= 20);
            check.due("rule 5: no block of its own in " + tree.getSimpleName(),
                tree.getMembers().stream().noneMatch(member -> member.getKind() == Tree.Kind.BLOCK));
            return super.visitClass(tree, v);
        }

        @Override
        public Void visitMethod(MethodTree tree, Void v) {
            Element method = here();
            calls.putIfAbsent(method, new LinkedHashSet<>());
            check.due("rule 11: " + method + " takes few", tree.getParameters().size() <= MOST_PARAMETERS);
            for (VariableTree parameter : tree.getParameters()) {
                if (parameter.getName().contentEquals("depth")) {
                    carriesDepth.add(method);
                }
            }
            long first = unit.getLineMap().getLineNumber(Math.max(0, trees.getSourcePositions().getStartPosition(unit, tree)));
            long last = unit.getLineMap().getLineNumber(Math.max(0, trees.getSourcePositions().getEndPosition(unit, tree)));
            check.due("rule 11: " + method + " is short", last - first < LONGEST_METHOD);
            return super.visitMethod(tree, v);
        }

        @Override
        public Void visitVariable(VariableTree tree, Void v) {
            Element variable = here();
            check.due("rule 3: the type of " + variable + at(tree), isAllowed(variable.asType()));
            if (variable.getKind() == ElementKind.FIELD && isOf(variable, Modifier.STATIC)) {
                staticField(tree, variable);
            }
            return super.visitVariable(tree, v);
        }

        private void staticField(VariableTree tree, Element variable) {
            String type = variable.asType().toString();
            check.due("rule 5: " + variable + " is final", isOf(variable, Modifier.FINAL));
            boolean isConstant = STATIC_CONSTANTS.contains(type) && ((VariableElement) variable).getConstantValue() != null;
            boolean isWrittenOut = STATIC_ARRAYS.contains(type) && tree.getInitializer() instanceof NewArrayTree
                && ((NewArrayTree) tree.getInitializer()).getInitializers() != null;
            check.due("rule 5: " + variable + " is written out", isConstant || isWrittenOut);
        }

        private boolean isAllowed(TypeMirror type) {
            String name = type.toString();
            String single = name.endsWith("[][]") ? name.substring(0, name.length() - 4) : name.replace("[]", "");
            boolean isOwn = single.startsWith("HatOrders.") && !name.endsWith("[][]");
            boolean isText = name.equals("java.lang.String");
            return isOwn || isText || PLAIN.contains(single);
        }

        @Override
        public Void visitMethodInvocation(MethodInvocationTree tree, Void v) {
            called(here(), tree);
            return super.visitMethodInvocation(tree, v);
        }

        private void called(Element method, Tree tree) {
            Element type = method.getEnclosingElement();
            if (type.toString().startsWith("HatOrders")) {
                calls.computeIfAbsent(enclosingMethod(), key -> new LinkedHashSet<>()).add(method);
                return;
            }
            String name = type.getSimpleName() + "." + method.getSimpleName();
            check.due("rule 4: " + name + at(tree), LIBRARY.contains(name));
        }

        private Element enclosingMethod() {
            for (TreePath path = getCurrentPath(); path != null; path = path.getParentPath()) {
                if (path.getLeaf() instanceof MethodTree || path.getLeaf() instanceof ClassTree) {
                    return trees.getElement(path);
                }
            }
            throw new IllegalStateException("a call outside of all classes");
        }

        @Override
        public Void visitNewClass(NewClassTree tree, Void v) {
            check.due("rule 2: no class without a name" + at(tree), tree.getClassBody() == null);
            check.due("an object is made of an own class" + at(tree), isAllowed(trees.getTypeMirror(getCurrentPath())));
            madeAtTheStart(tree);
            return super.visitNewClass(tree, v);
        }

        @Override
        public Void visitNewArray(NewArrayTree tree, Void v) {
            madeAtTheStart(tree);
            for (ExpressionTree length : tree.getDimensions()) {
                check.due("rule 7: a length is a constant" + at(tree), isNumberAbove0(length));
            }
            return super.visitNewArray(tree, v);
        }

        /** Rule 12 leaves more; that no call makes an object is this program's own. */
        private void madeAtTheStart(Tree tree) {
            Element maker = enclosingMethod();
            check.due("rule 12: made in a constructor or for a field" + at(tree),
                maker.getKind() == ElementKind.CONSTRUCTOR || maker.getKind() == ElementKind.CLASS);
        }

        @Override
        public Void visitBinary(BinaryTree tree, Void v) {
            if (tree.getKind() == Tree.Kind.DIVIDE || tree.getKind() == Tree.Kind.REMAINDER) {
                check.due("rule 7: a divisor that is seen to be above 0" + at(tree), isDivisor(tree.getRightOperand()));
            }
            if (tree.getKind() == Tree.Kind.PLUS) {
                check.due("rule 10: only numbers are added" + at(tree),
                    NUMBERS.contains(trees.getTypeMirror(getCurrentPath()).toString()));
            }
            return super.visitBinary(tree, v);
        }

        @Override
        public Void visitCompoundAssignment(CompoundAssignmentTree tree, Void v) {
            boolean divides = tree.getKind() == Tree.Kind.DIVIDE_ASSIGNMENT || tree.getKind() == Tree.Kind.REMAINDER_ASSIGNMENT;
            check.due("rule 7: nothing is divided in its place" + at(tree), !divides);
            notIntoConstants(tree.getVariable());
            return super.visitCompoundAssignment(tree, v);
        }

        /** A constant, or the counter of a loop that only goes on while it is above 0 or more. */
        private boolean isDivisor(ExpressionTree divisor) {
            if (isNumberAbove0(divisor)) {
                return true;
            }
            for (TreePath path = getCurrentPath(); path != null; path = path.getParentPath()) {
                if (path.getLeaf() instanceof ForLoopTree && keepsAbove0(((ForLoopTree) path.getLeaf()).getCondition(), divisor)) {
                    return true;
                }
            }
            return false;
        }

        private boolean keepsAbove0(ExpressionTree condition, ExpressionTree counter) {
            if (!(condition instanceof BinaryTree) || condition.getKind() != Tree.Kind.GREATER_THAN) {
                return false;
            }
            BinaryTree above = (BinaryTree) condition;
            boolean isSame = counter instanceof IdentifierTree && above.getLeftOperand().toString().equals(counter.toString());
            Object least = above.getRightOperand() instanceof LiteralTree ? ((LiteralTree) above.getRightOperand()).getValue() : null;
            return isSame && least instanceof Integer && (Integer) least >= 0;
        }

        private boolean isNumberAbove0(ExpressionTree tree) {
            if (tree instanceof BinaryTree && tree.getKind() == Tree.Kind.PLUS) {
                BinaryTree sum = (BinaryTree) tree;
                return isNumberAbove0(sum.getLeftOperand()) && isNumberAbove0(sum.getRightOperand());
            }
            Object value = null;
            if (tree instanceof LiteralTree) {
                value = ((LiteralTree) tree).getValue();
            } else if (trees.getElement(new TreePath(getCurrentPath(), tree)) instanceof VariableElement) {
                value = ((VariableElement) trees.getElement(new TreePath(getCurrentPath(), tree))).getConstantValue();
            }
            return value instanceof Integer && (Integer) value > 0;
        }

        @Override
        public Void visitAssignment(AssignmentTree tree, Void v) {
            notIntoConstants(tree.getVariable());
            return super.visitAssignment(tree, v);
        }

        @Override
        public Void visitUnary(UnaryTree tree, Void v) {
            boolean counts = tree.getKind() != Tree.Kind.UNARY_MINUS && tree.getKind() != Tree.Kind.LOGICAL_COMPLEMENT;
            if (counts) {
                notIntoConstants(tree.getExpression());
            }
            return super.visitUnary(tree, v);
        }

        private void notIntoConstants(ExpressionTree target) {
            if (target instanceof ArrayAccessTree) {
                ExpressionTree array = ((ArrayAccessTree) target).getExpression();
                Element changed = trees.getElement(new TreePath(getCurrentPath(), array));
                check.due("rule 5: " + array + " is never changed" + at(target), changed != null && !isOf(changed, Modifier.STATIC));
            }
        }

        @Override
        public Void visitForLoop(ForLoopTree tree, Void v) {
            check.due("rule 9: the loop has a bound" + at(tree), tree.getCondition() instanceof BinaryTree);
            check.due("rule 9: the loop has a counter" + at(tree), tree.getUpdate().size() == 1);
            return super.visitForLoop(tree, v);
        }

        @Override
        public Void visitWhileLoop(WhileLoopTree tree, Void v) {
            check.due("rule 9: the loop has a bound" + at(tree), tree.getCondition().toString().contains(" < "));
            return super.visitWhileLoop(tree, v);
        }

        @Override
        public Void visitDoWhileLoop(DoWhileLoopTree tree, Void v) {
            never("no loop is told from its end", tree);
            return super.visitDoWhileLoop(tree, v);
        }

        @Override
        public Void visitThrow(ThrowTree tree, Void v) {
            never("rule 6: no throw", tree);
            return super.visitThrow(tree, v);
        }

        @Override
        public Void visitTry(TryTree tree, Void v) {
            never("rule 6: no try", tree);
            return super.visitTry(tree, v);
        }

        @Override
        public Void visitSynchronized(SynchronizedTree tree, Void v) {
            never("rule 6: no synchronized", tree);
            return super.visitSynchronized(tree, v);
        }

        @Override
        public Void visitAssert(AssertTree tree, Void v) {
            never("rule 6: no assert", tree);
            return super.visitAssert(tree, v);
        }

        @Override
        public Void visitLambdaExpression(LambdaExpressionTree tree, Void v) {
            never("rule 2: no lambda", tree);
            return super.visitLambdaExpression(tree, v);
        }

        @Override
        public Void visitMemberReference(MemberReferenceTree tree, Void v) {
            never("rule 2: no method reference", tree);
            return super.visitMemberReference(tree, v);
        }
    }

    private static boolean isOwnField(Tree member) {
        return member instanceof VariableTree && !((VariableTree) member).getModifiers().getFlags().contains(Modifier.STATIC);
    }
}
