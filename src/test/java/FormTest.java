import com.sun.source.tree.AssignmentTree;
import com.sun.source.tree.BinaryTree;
import com.sun.source.tree.BlockTree;
import com.sun.source.tree.ClassTree;
import com.sun.source.tree.CompilationUnitTree;
import com.sun.source.tree.CompoundAssignmentTree;
import com.sun.source.tree.DoWhileLoopTree;
import com.sun.source.tree.EnhancedForLoopTree;
import com.sun.source.tree.ExpressionTree;
import com.sun.source.tree.ForLoopTree;
import com.sun.source.tree.LiteralTree;
import com.sun.source.tree.MethodInvocationTree;
import com.sun.source.tree.MethodTree;
import com.sun.source.tree.NewArrayTree;
import com.sun.source.tree.NewClassTree;
import com.sun.source.tree.Tree;
import com.sun.source.tree.TypeCastTree;
import com.sun.source.tree.UnaryTree;
import com.sun.source.tree.VariableTree;
import com.sun.source.tree.WhileLoopTree;
import com.sun.source.tree.ArrayAccessTree;
import com.sun.source.util.JavacTask;
import com.sun.source.util.TreePath;
import com.sun.source.util.TreePathScanner;
import com.sun.source.util.Trees;
import java.nio.file.Files;
import java.nio.file.Path;
import java.util.ArrayList;
import java.util.EnumSet;
import java.util.HashMap;
import java.util.LinkedHashMap;
import java.util.LinkedHashSet;
import java.util.List;
import java.util.Map;
import java.util.Set;
import java.util.TreeSet;
import javax.lang.model.element.Element;
import javax.lang.model.element.ElementKind;
import javax.lang.model.element.ExecutableElement;
import javax.lang.model.element.Modifier;
import javax.lang.model.element.VariableElement;
import javax.lang.model.type.ArrayType;
import javax.lang.model.type.TypeKind;
import javax.lang.model.type.TypeMirror;
import javax.tools.JavaCompiler;
import javax.tools.ToolProvider;

/**
 * The source against the rules of LANGUAGE.md, by the compiler's own tree of it. It is stricter than the rules where
 * the class needs less than they leave: a rule that it does not use is not let in here.
 */
public final class FormTest {
    private static final String FILE = "src/main/java/FoldDeeds.java";

    /** What the rules leave out altogether, by the rule's number. */
    private static final Map<Integer, Set<Tree.Kind>> NEVER = Map.of(
            2, EnumSet.of(Tree.Kind.LAMBDA_EXPRESSION, Tree.Kind.MEMBER_REFERENCE),
            6, EnumSet.of(Tree.Kind.THROW, Tree.Kind.TRY, Tree.Kind.CATCH, Tree.Kind.SYNCHRONIZED, Tree.Kind.ASSERT,
                    Tree.Kind.SWITCH_EXPRESSION, Tree.Kind.YIELD, Tree.Kind.INSTANCE_OF),
            13, EnumSet.of(Tree.Kind.IMPORT, Tree.Kind.PACKAGE, Tree.Kind.ANNOTATION));

    /** All of the library that rule 4 leaves and that the class has a use for. */
    private static final Set<String> LIBRARY = Set.of("java.lang.String.length()", "java.lang.String.charAt(int)",
            "java.lang.Math.max(int,int)", "java.lang.Math.min(int,int)", "java.lang.Math.max(long,long)",
            "java.lang.Math.min(long,long)", "java.lang.Integer.bitCount(int)",
            "java.lang.System.arraycopy(java.lang.Object,int,java.lang.Object,int,int)");

    private static final int MOST_PARAMETERS = 7;
    private static final int MOST_LINES = 60;
    private static final int MOST_DEEP = 8;
    private static final int MOST_CLASSES = 12;
    private static final int MOST_FIELDS = 20;

    private final Trees trees;
    private final CompilationUnitTree unit;
    private final Map<String, Set<String>> calls = new LinkedHashMap<>();
    private final Set<String> privates = new LinkedHashSet<>();
    private final Set<String> faceNames = new TreeSet<>();
    private final List<String> privateNames = new ArrayList<>();
    private final Set<Element> writtenOut = new LinkedHashSet<>();
    private int classes = 0;
    private int wrong = 0;

    private FormTest(String source) throws Exception {
        JavaCompiler compiler = ToolProvider.getSystemJavaCompiler();
        var files = compiler.getStandardFileManager(null, null, null);
        JavacTask task = (JavacTask) compiler.getTask(null, files, null, List.of("-proc:none"), null,
                files.getJavaFileObjects(Path.of(source)));
        unit = task.parse().iterator().next();
        task.analyze();
        trees = Trees.instance(task);
    }

    private void check(int rule, boolean holds, Tree where, String what) {
        if (!holds) {
            wrong++;
            System.out.println("rule " + rule + ", line " + lineOf(where) + ": " + what);
        }
    }

    private long lineOf(Tree tree) {
        return unit.getLineMap().getLineNumber(trees.getSourcePositions().getStartPosition(unit, tree));
    }

    private long lastLineOf(Tree tree) {
        return unit.getLineMap().getLineNumber(trees.getSourcePositions().getEndPosition(unit, tree));
    }

    private static boolean isOwn(Element element) {
        Element at = element;
        while (at != null && at.getKind() != ElementKind.PACKAGE) {
            if (at.getSimpleName().contentEquals("FoldDeeds")) {
                return true;
            }
            at = at.getEnclosingElement();
        }
        return false;
    }

    private static String nameOf(Element method) {
        return method.getEnclosingElement() + "." + method;
    }

    /** A number, String, a class of its own, or an array of one dimension of numbers or of classes of its own. */
    private static boolean isLeft(TypeMirror type) {
        if (type.getKind() == TypeKind.ARRAY) {
            TypeMirror inside = ((ArrayType) type).getComponentType();
            return inside.getKind() != TypeKind.ARRAY && isLeft(inside) && !isText(inside);
        }
        boolean number = type.getKind() == TypeKind.INT || type.getKind() == TypeKind.LONG
                || type.getKind() == TypeKind.BOOLEAN || type.getKind() == TypeKind.CHAR;
        return number || isText(type) || type.toString().startsWith("FoldDeeds.");
    }

    private static boolean isText(TypeMirror type) {
        return type.toString().equals("java.lang.String");
    }

    private final class Scanner extends TreePathScanner<Void, Void> {
        private String method = "";
        private boolean inConstructor = false;
        private int loops = 0;

        @Override
        public Void scan(Tree tree, Void none) {
            if (tree != null) {
                for (Map.Entry<Integer, Set<Tree.Kind>> never : NEVER.entrySet()) {
                    check(never.getKey(), !never.getValue().contains(tree.getKind()), tree, "no " + tree.getKind());
                }
            }
            return super.scan(tree, none);
        }

        private Element elementOf(Tree tree) {
            return trees.getElement(new TreePath(getCurrentPath(), tree));
        }

        private TypeMirror typeOf(Tree tree) {
            return trees.getTypeMirror(new TreePath(getCurrentPath(), tree));
        }

        @Override
        public Void visitClass(ClassTree tree, Void none) {
            classes++;
            boolean outer = getCurrentPath().getParentPath().getLeaf() == unit;
            Set<Modifier> has = tree.getModifiers().getFlags();
            check(1, tree.getKind() == Tree.Kind.CLASS && has.contains(Modifier.FINAL), tree, "a final class");
            check(1, outer ? has.contains(Modifier.PUBLIC) : has.contains(Modifier.PRIVATE), tree, "public is one alone");
            check(2, outer || has.contains(Modifier.STATIC), tree, "a class inside is static");
            int fields = 0;
            for (Tree member : tree.getMembers()) {
                check(2, !(member instanceof ClassTree) || outer, member, "no class within a class inside");
                check(5, !(member instanceof BlockTree), member, "no initialiser block");
                if (member instanceof VariableTree field && !field.getModifiers().getFlags().contains(Modifier.STATIC)) {
                    fields++;
                }
            }
            check(11, fields <= MOST_FIELDS, tree, fields + " fields");
            return super.visitClass(tree, none);
        }

        @Override
        public Void visitMethod(MethodTree tree, Void none) {
            ExecutableElement element = (ExecutableElement) trees.getElement(getCurrentPath());
            Set<Modifier> has = element.getModifiers();
            boolean ofFace = element.getEnclosingElement().getSimpleName().contentEquals("FoldDeeds");
            inConstructor = element.getKind() == ElementKind.CONSTRUCTOR;
            method = nameOf(element);
            calls.put(method, new LinkedHashSet<>());
            String name = tree.getName().toString();
            if (ofFace && has.contains(Modifier.PUBLIC)) {
                faceNames.add(name);
            } else if (!inConstructor) {
                privateNames.add(name);
                check(1, !ofFace || has.contains(Modifier.PRIVATE), tree, name + " is public or private");
            }
            if (has.contains(Modifier.PRIVATE)) {
                privates.add(method);
            }
            check(6, !Set.of("equals", "hashCode", "toString").contains(name), tree, "no " + name);
            check(11, tree.getParameters().size() <= MOST_PARAMETERS, tree, name + " takes seven at most");
            check(11, lastLineOf(tree) - lineOf(tree) < MOST_LINES, tree, name + " is long");
            if (tree.getReturnType() != null && element.getReturnType().getKind() != TypeKind.VOID) {
                check(3, isLeft(element.getReturnType()), tree, name + " answers " + element.getReturnType());
            }
            return super.visitMethod(tree, none);
        }

        @Override
        public Void visitVariable(VariableTree tree, Void none) {
            VariableElement element = (VariableElement) trees.getElement(getCurrentPath());
            check(3, isLeft(element.asType()), tree, tree.getName() + " is " + element.asType());
            if (element.getModifiers().contains(Modifier.STATIC)) {
                check(5, element.getModifiers().contains(Modifier.FINAL), tree, tree.getName() + " is final");
                if (tree.getInitializer() instanceof NewArrayTree) {
                    writtenOut.add(element);
                } else {
                    check(5, element.getConstantValue() != null, tree, tree.getName() + " is a constant");
                }
            }
            return super.visitVariable(tree, none);
        }

        @Override
        public Void visitMethodInvocation(MethodInvocationTree tree, Void none) {
            Element called = elementOf(tree.getMethodSelect());
            String name = nameOf(called);
            if (isOwn(called)) {
                calls.get(method).add(name);
            } else if (!name.endsWith("Object()")) {
                check(4, LIBRARY.contains(name), tree, name + " is not in its list");
            }
            return super.visitMethodInvocation(tree, none);
        }

        @Override
        public Void visitNewClass(NewClassTree tree, Void none) {
            Element made = trees.getElement(getCurrentPath());
            check(4, isOwn(made), tree, made + " is of the library");
            check(2, tree.getClassBody() == null, tree, "no class without a name");
            check(12, loops == 0 || inConstructor, tree, "nothing is made in a loop but by a constructor");
            if (!method.isEmpty()) {
                calls.get(method).add(nameOf(made));
            }
            return super.visitNewClass(tree, none);
        }

        @Override
        public Void visitNewArray(NewArrayTree tree, Void none) {
            check(12, loops == 0, tree, "no array is made in a loop");
            return super.visitNewArray(tree, none);
        }

        private Void loop(Tree tree, ExpressionTree condition, Runnable inside) {
            check(9, condition != null && !(inner(condition) instanceof LiteralTree), tree, "a loop has a bound");
            loops++;
            inside.run();
            loops--;
            return null;
        }

        private ExpressionTree inner(ExpressionTree tree) {
            return tree instanceof com.sun.source.tree.ParenthesizedTree p ? inner(p.getExpression()) : tree;
        }

        @Override
        public Void visitForLoop(ForLoopTree tree, Void none) {
            check(9, tree.getUpdate().size() == 1, tree, "a for loop counts");
            return loop(tree, tree.getCondition(), () -> super.visitForLoop(tree, none));
        }

        @Override
        public Void visitWhileLoop(WhileLoopTree tree, Void none) {
            return loop(tree, tree.getCondition(), () -> super.visitWhileLoop(tree, none));
        }

        @Override
        public Void visitDoWhileLoop(DoWhileLoopTree tree, Void none) {
            return loop(tree, tree.getCondition(), () -> super.visitDoWhileLoop(tree, none));
        }

        @Override
        public Void visitEnhancedForLoop(EnhancedForLoopTree tree, Void none) {
            return loop(tree, tree.getExpression(), () -> super.visitEnhancedForLoop(tree, none));
        }

        @Override
        public Void visitBinary(BinaryTree tree, Void none) {
            boolean texts = isText(typeOf(tree.getLeftOperand())) || isText(typeOf(tree.getRightOperand()));
            check(10, !texts, tree, "texts are neither joined by + nor compared by ==");
            boolean divides = tree.getKind() == Tree.Kind.DIVIDE || tree.getKind() == Tree.Kind.REMAINDER;
            if (divides) {
                check(7, divisorIsSeen(tree), tree, "the divisor is looked at in the same expression, or a constant");
            }
            return super.visitBinary(tree, none);
        }

        /** A constant that is not 0, or the expression stands behind a test of the divisor by ?: . */
        private boolean divisorIsSeen(BinaryTree tree) {
            Element divisor = elementOf(tree.getRightOperand());
            if (divisor instanceof VariableElement v && v.getConstantValue() instanceof Integer n) {
                return n != 0;
            }
            for (TreePath at = getCurrentPath(); at != null; at = at.getParentPath()) {
                if (at.getLeaf() instanceof com.sun.source.tree.ConditionalExpressionTree choice) {
                    return choice.getCondition().toString().contains(tree.getRightOperand().toString());
                }
            }
            return false;
        }

        @Override
        public Void visitCompoundAssignment(CompoundAssignmentTree tree, Void none) {
            boolean divides = tree.getKind() == Tree.Kind.DIVIDE_ASSIGNMENT
                    || tree.getKind() == Tree.Kind.REMAINDER_ASSIGNMENT;
            check(7, !divides, tree, "no divisor that was not looked at");
            return super.visitCompoundAssignment(tree, none);
        }

        @Override
        public Void visitTypeCast(TypeCastTree tree, Void none) {
            check(6, typeOf(tree.getType()).getKind().isPrimitive(), tree, "casts are of numbers alone");
            return super.visitTypeCast(tree, none);
        }

        @Override
        public Void visitAssignment(AssignmentTree tree, Void none) {
            notWrittenOut(tree.getVariable());
            return super.visitAssignment(tree, none);
        }

        @Override
        public Void visitUnary(UnaryTree tree, Void none) {
            if (tree.getKind() != Tree.Kind.UNARY_MINUS && tree.getKind() != Tree.Kind.LOGICAL_COMPLEMENT) {
                notWrittenOut(tree.getExpression());
            }
            return super.visitUnary(tree, none);
        }

        private void notWrittenOut(ExpressionTree to) {
            if (to instanceof ArrayAccessTree access) {
                check(5, !writtenOut.contains(elementOf(access.getExpression())), to, "a constant row never changes");
            }
        }
    }

    /** What can be reached from a method, itself only by a way round. */
    private Set<String> reachedFrom(String from) {
        Set<String> reached = new LinkedHashSet<>();
        List<String> open = new ArrayList<>(calls.get(from));
        while (!open.isEmpty()) {
            String next = open.remove(open.size() - 1);
            if (calls.containsKey(next) && reached.add(next)) {
                open.addAll(calls.get(next));
            }
        }
        return reached;
    }

    /** Methods that call one another are one step: what is deep by recursion has a guard of its own. */
    private int deepFrom(String from, Map<String, Set<String>> reached, Map<String, Integer> known) {
        if (known.containsKey(from)) {
            return known.get(from);
        }
        Set<String> together = new LinkedHashSet<>(Set.of(from));
        for (String other : reached.get(from)) {
            if (reached.get(other).contains(from)) {
                together.add(other);
            }
        }
        int deepest = 0;
        for (String one : together) {
            for (String next : calls.get(one)) {
                if (reached.containsKey(next) && !together.contains(next)) {
                    deepest = Math.max(deepest, deepFrom(next, reached, known));
                }
            }
        }
        known.put(from, deepest + 1);
        return deepest + 1;
    }

    private void graph() {
        Map<String, Set<String>> reached = new HashMap<>();
        for (String method : calls.keySet()) {
            reached.put(method, reachedFrom(method));
        }
        Map<String, Integer> known = new HashMap<>();
        for (String method : calls.keySet()) {
            int deep = deepFrom(method, reached, known);
            check(11, deep <= MOST_DEEP, unit, method + " goes " + deep + " deep");
            if (reached.get(method).contains(method)) {
                check(8, privates.contains(method), unit, method + " calls itself, so it is private");
            }
        }
        for (String name : privateNames) {
            check(1, !faceNames.contains(name), unit, name + " bears a name of the face");
        }
        check(11, classes <= MOST_CLASSES, unit, classes + " classes");
        check(1, faceNames.size() == 31 + 1, unit, "31 methods and a constructor are public: " + faceNames);
    }

    public static void main(String[] args) throws Exception {
        String file = args.length > 0 ? args[0] : FILE;
        FormTest test = new FormTest(file);
        test.new Scanner().scan(test.unit, null);
        test.graph();
        test.check(3, Files.readString(Path.of(file)).chars().allMatch(c -> c < 127), test.unit, "plain signs alone");
        System.out.println(test.wrong == 0
                ? test.calls.size() + " methods keep to LANGUAGE.md" : test.wrong + " things are not so");
        if (test.wrong > 0) {
            System.exit(1);
        }
    }
}
