import com.sun.source.tree.AnnotationTree;
import com.sun.source.tree.BinaryTree;
import com.sun.source.tree.ClassTree;
import com.sun.source.tree.CompilationUnitTree;
import com.sun.source.tree.CompoundAssignmentTree;
import com.sun.source.tree.DoWhileLoopTree;
import com.sun.source.tree.ExpressionTree;
import com.sun.source.tree.ForLoopTree;
import com.sun.source.tree.IdentifierTree;
import com.sun.source.tree.LiteralTree;
import com.sun.source.tree.MethodInvocationTree;
import com.sun.source.tree.MethodTree;
import com.sun.source.tree.NewArrayTree;
import com.sun.source.tree.NewClassTree;
import com.sun.source.tree.Tree;
import com.sun.source.tree.TypeCastTree;
import com.sun.source.tree.VariableTree;
import com.sun.source.tree.WhileLoopTree;
import com.sun.source.util.JavacTask;
import com.sun.source.util.SourcePositions;
import com.sun.source.util.TreePath;
import com.sun.source.util.TreePathScanner;
import com.sun.source.util.Trees;
import java.io.File;
import java.util.HashMap;
import java.util.HashSet;
import java.util.LinkedHashMap;
import java.util.LinkedHashSet;
import java.util.List;
import java.util.Map;
import java.util.Set;
import java.util.regex.Pattern;
import javax.lang.model.element.Element;
import javax.lang.model.element.ElementKind;
import javax.lang.model.element.Modifier;
import javax.lang.model.element.VariableElement;
import javax.lang.model.type.ArrayType;
import javax.lang.model.type.TypeKind;
import javax.lang.model.type.TypeMirror;
import javax.tools.JavaCompiler;
import javax.tools.StandardJavaFileManager;
import javax.tools.ToolProvider;

/** The rules of LANGUAGE.md that the compiler's own tree of the class tells, and some that the class has of itself. */
public final class LanguageTest extends Due {
    private static final String FILE = "src/main/java/HiccupLane.java";
    private static final String OUTER = "HiccupLane";
    private static final int MOST_LINES = 60;
    private static final int MOST_PARAMETERS = 7;
    private static final int MOST_FIELDS = 20;
    private static final int MOST_CLASSES = 12;
    private static final int MOST_DEEP = 8;
    private static final Set<String> LIBRARY = Set.of("String.length", "String.charAt", "String.isEmpty", "String.equals",
        "String.indexOf", "String.substring", "String.toCharArray", "Math.max", "Math.min", "Math.abs", "Math.floorDiv",
        "Math.floorMod", "Integer.bitCount", "Integer.max", "Integer.min", "Integer.compare", "System.arraycopy",
        "Arrays.fill", "Arrays.copyOf", "Arrays.copyOfRange");
    private static final Set<TypeKind> NUMBERS = Set.of(TypeKind.INT, TypeKind.LONG, TypeKind.SHORT, TypeKind.BYTE,
        TypeKind.CHAR, TypeKind.BOOLEAN);
    private static final Set<Tree.Kind> RULED_OUT = Set.of(Tree.Kind.THROW, Tree.Kind.TRY, Tree.Kind.SYNCHRONIZED,
        Tree.Kind.ASSERT, Tree.Kind.LAMBDA_EXPRESSION, Tree.Kind.MEMBER_REFERENCE, Tree.Kind.IMPORT, Tree.Kind.PACKAGE,
        Tree.Kind.INSTANCE_OF, Tree.Kind.PARAMETERIZED_TYPE);

    public static void main(String[] args) throws Exception {
        holds("rule 4: signs that all machines have", read(FILE).chars().allMatch(c -> c == '\n' || c >= 32 && c < 127));
        JavaCompiler compiler = ToolProvider.getSystemJavaCompiler();
        try (StandardJavaFileManager files = compiler.getStandardFileManager(null, null, null)) {
            JavacTask task = (JavacTask) compiler.getTask(null, files, null, List.of("-proc:none"), null,
                files.getJavaFileObjects(new File(FILE)));
            Looker looker = null;
            for (CompilationUnitTree unit : task.parse()) {
                task.analyze();
                looker = new Looker(Trees.instance(task), unit);
                holds("one class stands in the file", unit.getTypeDecls().size() == 1);
                looker.scan(unit, null);
            }
            holds("the class was looked at", looker != null && looker.calls.size() > 100);
            if (looker != null) {
                looker.openCalls();
            }
        }
        end("the language");
    }

    private static final class Looker extends TreePathScanner<Void, Void> {
        final Map<Element, Set<Element>> calls = new LinkedHashMap<>();
        private final Trees trees;
        private final CompilationUnitTree unit;
        private final SourcePositions places;
        private final String text = read(FILE);
        private int classes = 0;
        private Element method = null;
        private String methodText = "";

        Looker(Trees trees, CompilationUnitTree unit) {
            this.trees = trees;
            this.unit = unit;
            places = trees.getSourcePositions();
        }

        private void is(Tree tree, String rule, boolean holds) {
            holds("line " + unit.getLineMap().getLineNumber(places.getStartPosition(unit, tree)) + ": " + rule, holds);
        }

        /** Of what the compiler adds itself there is none. */
        private String textOf(Tree tree) {
            int start = (int) places.getStartPosition(unit, tree);
            int end = (int) places.getEndPosition(unit, tree);
            return start < 0 || end < start ? "" : text.substring(start, end);
        }

        private TypeMirror typeOf(Tree tree) {
            return trees.getTypeMirror(new TreePath(getCurrentPath(), tree));
        }

        private boolean isText(Tree tree) {
            TypeMirror type = typeOf(tree);
            return type != null && type.toString().equals("java.lang.String");
        }

        @Override
        public Void scan(Tree tree, Void nothing) {
            if (tree != null) {
                is(tree, "rules 1, 2, 6: no " + tree.getKind(), !RULED_OUT.contains(tree.getKind()));
            }
            return super.scan(tree, nothing);
        }

        @Override
        public Void visitAnnotation(AnnotationTree tree, Void nothing) {
            is(tree, "no annotation", false);
            return super.visitAnnotation(tree, nothing);
        }

        @Override
        public Void visitClass(ClassTree tree, Void nothing) {
            classes++;
            is(tree, "rule 11: twelve classes at most", classes <= MOST_CLASSES);
            boolean isOuter = getCurrentPath().getParentPath().getLeaf() == unit;
            boolean isInside = getCurrentPath().getParentPath().getLeaf() instanceof ClassTree;
            Set<Modifier> signs = tree.getModifiers().getFlags();
            is(tree, "rule 2: no class in a method", isOuter || isInside);
            is(tree, "rule 1: public and final", !isOuter || signs.equals(Set.of(Modifier.PUBLIC, Modifier.FINAL)));
            is(tree, "rules 1, 2: private and static", isOuter || signs.contains(Modifier.STATIC) && signs.contains(Modifier.PRIVATE));
            int fields = 0;
            for (Tree member : tree.getMembers()) {
                is(member, "rule 5: no initialiser block", member.getKind() != Tree.Kind.BLOCK);
                if (member instanceof VariableTree field && !field.getModifiers().getFlags().contains(Modifier.STATIC)) {
                    fields++;
                }
            }
            is(tree, "rule 11: twenty fields at most", fields <= MOST_FIELDS);
            return super.visitClass(tree, nothing);
        }

        @Override
        public Void visitVariable(VariableTree tree, Void nothing) {
            Element variable = trees.getElement(getCurrentPath());
            TypeMirror type = variable.asType();
            boolean isArray = type.getKind() == TypeKind.ARRAY;
            TypeMirror single = isArray ? ((ArrayType) type).getComponentType() : type;
            is(tree, "rule 3: " + type, NUMBERS.contains(single.getKind()) || single.toString().startsWith(OUTER)
                || !isArray && single.toString().equals("java.lang.String"));
            if (variable.getKind() == ElementKind.FIELD && tree.getModifiers().getFlags().contains(Modifier.STATIC)) {
                is(tree, "rule 5: a static field is final", tree.getModifiers().getFlags().contains(Modifier.FINAL));
                boolean isWritten = tree.getInitializer() instanceof NewArrayTree
                    || ((VariableElement) variable).getConstantValue() != null;
                is(tree, "rule 5: a constant, or written out", isWritten);
            }
            return super.visitVariable(tree, nothing);
        }

        @Override
        public Void visitMethod(MethodTree tree, Void nothing) {
            method = trees.getElement(getCurrentPath());
            methodText = textOf(tree);
            calls.computeIfAbsent(method, m -> new LinkedHashSet<>());
            is(tree, "rule 11: sixty lines at most", methodText.split("\n").length <= MOST_LINES);
            is(tree, "rule 11: seven parameters at most", tree.getParameters().size() <= MOST_PARAMETERS);
            is(tree, "rule 6: no throws", tree.getThrows().isEmpty());
            String name = tree.getName().toString();
            is(tree, "rule 6: no equals, hashCode, toString", !Set.of("equals", "hashCode", "toString", "finalize").contains(name));
            boolean isAdded = methodText.isEmpty();
            if (!isAdded) {
                super.visitMethod(tree, nothing);
            }
            method = null;
            methodText = "";
            return null;
        }

        private boolean isInConstructor() {
            return method != null && method.getKind() == ElementKind.CONSTRUCTOR;
        }

        @Override
        public Void visitMethodInvocation(MethodInvocationTree tree, Void nothing) {
            Element called = trees.getElement(getCurrentPath());
            String owner = called.getEnclosingElement().toString();
            if (owner.startsWith(OUTER)) {
                if (method != null) {
                    calls.get(method).add(called);
                }
            } else if (called.getKind() != ElementKind.CONSTRUCTOR) {
                String name = called.getEnclosingElement().getSimpleName() + "." + called.getSimpleName();
                is(tree, "rule 4: " + name, LIBRARY.contains(name));
            }
            return super.visitMethodInvocation(tree, nothing);
        }

        @Override
        public Void visitNewClass(NewClassTree tree, Void nothing) {
            Element made = trees.getElement(getCurrentPath());
            is(tree, "rule 2: no anonymous class", tree.getClassBody() == null);
            is(tree, "rule 4: of its own", made.getEnclosingElement().toString().startsWith(OUTER));
            is(tree, "objects are made in constructors alone", isInConstructor());
            if (method != null) {
                calls.get(method).add(made);
            }
            return super.visitNewClass(tree, nothing);
        }

        @Override
        public Void visitNewArray(NewArrayTree tree, Void nothing) {
            is(tree, "rows are made in constructors, or written out as constants", isInConstructor() || method == null);
            is(tree, "rule 3: one dimension", tree.getDimensions().size() <= 1);
            for (ExpressionTree length : tree.getDimensions()) {
                boolean isSafe = textOf(length).startsWith("Math.max(0, ") || isConstantAbove(length, -1);
                is(tree, "rule 7: a row's length is 0 at least: " + textOf(length), isSafe);
            }
            return super.visitNewArray(tree, nothing);
        }

        @Override
        public Void visitTypeCast(TypeCastTree tree, Void nothing) {
            is(tree, "rule 6: casts of numbers alone", typeOf(tree.getType()).getKind().isPrimitive());
            return super.visitTypeCast(tree, nothing);
        }

        @Override
        public Void visitBinary(BinaryTree tree, Void nothing) {
            boolean isAnyText = isText(tree.getLeftOperand()) || isText(tree.getRightOperand());
            is(tree, "rules 6, 10: no + and no == of texts", !isAnyText);
            if (tree.getKind() == Tree.Kind.DIVIDE || tree.getKind() == Tree.Kind.REMAINDER) {
                divisor(tree.getRightOperand());
            }
            return super.visitBinary(tree, nothing);
        }

        @Override
        public Void visitCompoundAssignment(CompoundAssignmentTree tree, Void nothing) {
            is(tree, "rule 10: no += of texts", !isText(tree.getVariable()));
            if (tree.getKind() == Tree.Kind.DIVIDE_ASSIGNMENT || tree.getKind() == Tree.Kind.REMAINDER_ASSIGNMENT) {
                divisor(tree.getExpression());
            }
            return super.visitCompoundAssignment(tree, nothing);
        }

        private void divisor(ExpressionTree tree) {
            String text = textOf(tree);
            // A loop that begins at 1 and multiplies by 10 tells as much as a test does.
            Pattern test = Pattern.compile("\\b" + Pattern.quote(text) + "( == 0| > 0| > 1| != 0| = 1;)");
            boolean isTested = tree instanceof IdentifierTree && test.matcher(methodText).find();
            is(tree, "rule 7: a divisor is tested: " + text, isConstantAbove(tree, 0) || isTested);
        }

        private boolean isConstantAbove(ExpressionTree tree, int least) {
            Object value = null;
            if (tree instanceof LiteralTree literal) {
                value = literal.getValue();
            } else if (tree instanceof BinaryTree both) {
                return isConstantAbove(both.getLeftOperand(), least) && isConstantAbove(both.getRightOperand(), least)
                    && Set.of(Tree.Kind.PLUS, Tree.Kind.MULTIPLY).contains(tree.getKind());
            } else if (trees.getElement(new TreePath(getCurrentPath(), tree)) instanceof VariableElement variable) {
                value = variable.getConstantValue();
            }
            return value instanceof Integer number && number > least;
        }

        @Override
        public Void visitLiteral(LiteralTree tree, Void nothing) {
            boolean isPlain = true;
            if (tree.getValue() instanceof String text) {
                isPlain = text.chars().allMatch(c -> c >= 1 && c <= 127);
            }
            is(tree, "rule 4: signs 1 to 127", isPlain);
            return super.visitLiteral(tree, nothing);
        }

        @Override
        public Void visitWhileLoop(WhileLoopTree tree, Void nothing) {
            is(tree, "rule 9: a loop has an end: " + tree.getCondition(), Pattern.compile("\\w+ [<>]=? \\w+").matcher(textOf(tree.getCondition())).find());
            return super.visitWhileLoop(tree, nothing);
        }

        @Override
        public Void visitDoWhileLoop(DoWhileLoopTree tree, Void nothing) {
            is(tree, "rule 9: no loop whose end stands behind it", false);
            return super.visitDoWhileLoop(tree, nothing);
        }

        @Override
        public Void visitForLoop(ForLoopTree tree, Void nothing) {
            boolean isCounted = tree.getCondition() != null && tree.getUpdate().size() == 1 && tree.getInitializer().size() == 1
                && tree.getInitializer().get(0) instanceof VariableTree;
            is(tree, "rule 9: a counted loop", isCounted);
            if (isCounted) {
                String counter = ((VariableTree) tree.getInitializer().get(0)).getName().toString();
                is(tree, "rule 9: its condition bounds " + counter, Pattern.compile("\\b" + counter + " (<|<=|>=) [\\w.]+")
                    .matcher(textOf(tree.getCondition())).find());
                is(tree, "rule 9: its end moves " + counter, textOf(tree.getUpdate().get(0)).startsWith(counter));
            }
            return super.visitForLoop(tree, nothing);
        }

        /** Rule 11: calls that are no recursion go at most eight deep; those that call one another count one by one. */
        void openCalls() {
            Set<Element> recursive = new LinkedHashSet<>();
            for (Element one : calls.keySet()) {
                if (reached(one).contains(one)) {
                    recursive.add(one);
                }
            }
            for (Element one : recursive) {
                holds("rule 8: " + one + " is private", one.getModifiers().contains(Modifier.PRIVATE));
                holds("rule 8: " + one + " takes its depth", one.toString().endsWith("(int)"));
            }
            holds("rule 8: two call one another: " + recursive, recursive.size() == 2);
            Map<Element, Integer> deep = new HashMap<>();
            for (Element one : calls.keySet()) {
                if (!one.getModifiers().contains(Modifier.PRIVATE)) {
                    int open = depth(one, recursive, deep);
                    holds("rule 11: " + one + " goes " + open + " deep", open <= MOST_DEEP);
                }
            }
        }

        private Set<Element> reached(Element from) {
            Set<Element> reached = new HashSet<>();
            reach(from, reached);
            return reached;
        }

        private void reach(Element from, Set<Element> reached) {
            for (Element next : calls.getOrDefault(from, Set.of())) {
                if (reached.add(next)) {
                    reach(next, reached);
                }
            }
        }

        private int depth(Element from, Set<Element> recursive, Map<Element, Integer> deep) {
            if (deep.containsKey(from)) {
                return deep.get(from);
            }
            int deepest = 0;
            if (recursive.contains(from)) {
                for (Element one : recursive) {
                    for (Element next : calls.get(one)) {
                        if (!recursive.contains(next)) {
                            deepest = Math.max(deepest, recursive.size() - 1 + depth(next, recursive, deep));
                        }
                    }
                }
            } else {
                for (Element next : calls.getOrDefault(from, Set.of())) {
                    deepest = Math.max(deepest, depth(next, recursive, deep));
                }
            }
            deep.put(from, deepest + 1);
            return deepest + 1;
        }
    }
}
