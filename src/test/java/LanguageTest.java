import com.sun.source.tree.AnnotationTree;
import com.sun.source.tree.AssertTree;
import com.sun.source.tree.BinaryTree;
import com.sun.source.tree.ClassTree;
import com.sun.source.tree.CompilationUnitTree;
import com.sun.source.tree.DoWhileLoopTree;
import com.sun.source.tree.ExpressionTree;
import com.sun.source.tree.ForLoopTree;
import com.sun.source.tree.InstanceOfTree;
import com.sun.source.tree.LambdaExpressionTree;
import com.sun.source.tree.MemberReferenceTree;
import com.sun.source.tree.MethodInvocationTree;
import com.sun.source.tree.MethodTree;
import com.sun.source.tree.NewArrayTree;
import com.sun.source.tree.NewClassTree;
import com.sun.source.tree.ParenthesizedTree;
import com.sun.source.tree.SynchronizedTree;
import com.sun.source.tree.ThrowTree;
import com.sun.source.tree.Tree;
import com.sun.source.tree.TryTree;
import com.sun.source.tree.TypeCastTree;
import com.sun.source.tree.VariableTree;
import com.sun.source.tree.WhileLoopTree;
import com.sun.source.util.JavacTask;
import com.sun.source.util.TreePath;
import com.sun.source.util.TreePathScanner;
import com.sun.source.util.Trees;
import java.io.IOException;
import java.nio.file.Path;
import java.util.HashMap;
import java.util.HashSet;
import java.util.LinkedHashMap;
import java.util.List;
import java.util.Map;
import java.util.Set;
import javax.lang.model.element.Element;
import javax.lang.model.element.ExecutableElement;
import javax.lang.model.element.Modifier;
import javax.lang.model.type.ArrayType;
import javax.lang.model.type.TypeKind;
import javax.lang.model.type.TypeMirror;
import javax.tools.JavaCompiler;
import javax.tools.StandardJavaFileManager;
import javax.tools.ToolProvider;

/** What of LANGUAGE.md the compiler's tree of the class can tell; a row is named by the rule's number. */
public final class LanguageTest {
    private static final int MOST_DEEP = 8;
    private static final Set<String> LIBRARY = Set.of("String.length", "String.charAt", "String.isEmpty", "String.equals",
        "String.indexOf", "String.substring", "String.toCharArray", "System.arraycopy", "Arrays.copyOf", "Arrays.copyOfRange",
        "Arrays.fill", "Math.max", "Math.min", "Math.abs", "Math.floorDiv", "Math.floorMod", "Integer.bitCount", "Long.bitCount",
        "Integer.compare", "Long.compare", "Object.<init>");
    private static final Set<String> OVER_NUMBERS = Set.of("System.arraycopy", "Arrays.fill", "Arrays.copyOf", "Arrays.copyOfRange");

    private final Check c = new Check();
    private final Trees trees;
    private final CompilationUnitTree unit;
    private final Set<String> own = new HashSet<>();
    /** Which of the class's own methods each calls; those that are private. */
    private final Map<ExecutableElement, Set<ExecutableElement>> calls = new LinkedHashMap<>();

    public static void main(String[] args) throws IOException {
        Path root = Path.of(args.length > 0 ? args[0] : ".");
        JavaCompiler compiler = ToolProvider.getSystemJavaCompiler();
        try (StandardJavaFileManager files = compiler.getStandardFileManager(null, null, null)) {
            JavacTask task = (JavacTask) compiler.getTask(null, files, null, List.of("-proc:none"), null,
                files.getJavaFileObjects(root.resolve("src/main/java/LastName.java")));
            LanguageTest t = new LanguageTest(Trees.instance(task), task.parse().iterator().next());
            task.analyze();
            t.look();
            t.c.close("LanguageTest");
        }
    }

    private LanguageTest(Trees trees, CompilationUnitTree unit) {
        this.trees = trees;
        this.unit = unit;
    }

    private void look() {
        collectOwn(unit.getTypeDecls());
        new Looker().scan(unit, null);
        lookAtCalls();
    }

    private void collectOwn(List<? extends Tree> all) {
        for (Tree tree : all) {
            if (tree instanceof ClassTree) {
                own.add(((ClassTree) tree).getSimpleName().toString());
                collectOwn(((ClassTree) tree).getMembers());
            }
        }
    }

    /** Rules 8 and 11: who call one another are private, and the longest chain of calls, each such ring as one. */
    private void lookAtCalls() {
        Map<ExecutableElement, Set<ExecutableElement>> reached = new HashMap<>();
        for (ExecutableElement from : calls.keySet()) {
            Set<ExecutableElement> all = new HashSet<>();
            reach(from, all);
            reached.put(from, all);
            boolean recursive = all.contains(from);
            c.due("8: " + from + " is private, as it calls itself", !recursive || from.getModifiers().contains(Modifier.PRIVATE), true);
        }
        Map<ExecutableElement, Integer> depths = new HashMap<>();
        for (ExecutableElement from : calls.keySet()) {
            int depth = depth(from, reached, depths);
            c.due("11: " + from.getEnclosingElement().getSimpleName() + "." + from + " goes deep: " + depth, depth <= MOST_DEEP, true);
        }
    }

    private void reach(ExecutableElement from, Set<ExecutableElement> all) {
        for (ExecutableElement to : calls.getOrDefault(from, Set.of())) {
            if (all.add(to)) {
                reach(to, all);
            }
        }
    }

    /** How many calls stand open at most from that one on, those of a ring counted once. */
    private int depth(ExecutableElement from, Map<ExecutableElement, Set<ExecutableElement>> reached, Map<ExecutableElement, Integer> depths) {
        Integer known = depths.get(from);
        if (known != null) {
            return known;
        }
        Set<ExecutableElement> ring = new HashSet<>(Set.of(from));
        for (ExecutableElement to : reached.getOrDefault(from, Set.of())) {
            if (reached.getOrDefault(to, Set.of()).contains(from)) {
                ring.add(to);
            }
        }
        int deepest = 0;
        for (ExecutableElement one : ring) {
            for (ExecutableElement to : calls.getOrDefault(one, Set.of())) {
                deepest = ring.contains(to) ? deepest : Math.max(deepest, depth(to, reached, depths));
            }
        }
        for (ExecutableElement one : ring) {
            depths.put(one, deepest + 1);
        }
        return deepest + 1;
    }

    private boolean isOwn(TypeMirror type) {
        String name = type.toString();
        return own.contains(name.substring(name.lastIndexOf('.') + 1));
    }

    private static boolean isNumbers(TypeMirror type) {
        if (type.getKind() != TypeKind.ARRAY) {
            return false;
        }
        TypeKind of = ((ArrayType) type).getComponentType().getKind();
        return of.isPrimitive() && of != TypeKind.BOOLEAN;
    }

    /** Rule 3, as far as this class goes: int, long, char, boolean, rows and tables of them, String, own classes. */
    private boolean isTold(TypeMirror type) {
        if (type.getKind() == TypeKind.ARRAY) {
            TypeMirror of = ((ArrayType) type).getComponentType();
            return of.getKind() == TypeKind.ARRAY ? isNumbers(of) : of.getKind().isPrimitive() || isOwn(of);
        }
        boolean fraction = type.getKind() == TypeKind.DOUBLE || type.getKind() == TypeKind.FLOAT;
        boolean plain = type.getKind().isPrimitive() && !fraction || type.getKind() == TypeKind.VOID;
        return plain || type.toString().equals("java.lang.String") || isOwn(type);
    }

    private final class Looker extends TreePathScanner<Void, Void> {
        private ExecutableElement method = null;

        private String at(Tree tree) {
            long start = trees.getSourcePositions().getStartPosition(unit, tree);
            return " in line " + unit.getLineMap().getLineNumber(start);
        }

        private void never(String what, Tree tree) {
            c.due(what + at(tree), false, true);
        }

        private TypeMirror typeOf(Tree tree) {
            return trees.getTypeMirror(TreePath.getPath(unit, tree));
        }

        @Override
        public Void visitClass(ClassTree tree, Void none) {
            boolean outer = getCurrentPath().getParentPath().getLeaf() == unit;
            c.due("2: static" + at(tree), outer || tree.getModifiers().getFlags().contains(Modifier.STATIC), true);
            c.due("2: a member" + at(tree), outer || getCurrentPath().getParentPath().getLeaf() instanceof ClassTree, true);
            for (Tree member : tree.getMembers()) {
                c.due("5: no block" + at(member), member.getKind() != Tree.Kind.BLOCK, true);
            }
            return super.visitClass(tree, none);
        }

        @Override
        public Void visitVariable(VariableTree tree, Void none) {
            Element it = trees.getElement(getCurrentPath());
            c.due("3: the type of " + tree.getName() + at(tree), isTold(it.asType()), true);
            if (it.getModifiers().contains(Modifier.STATIC)) {
                c.due("5: final" + at(tree), it.getModifiers().contains(Modifier.FINAL), true);
                c.due("5: a constant" + at(tree), tree.getInitializer() != null && it.asType().getKind() != TypeKind.DECLARED
                    || it.asType().toString().equals("java.lang.String"), true);
            }
            return super.visitVariable(tree, none);
        }

        @Override
        public Void visitMethod(MethodTree tree, Void none) {
            ExecutableElement outer = method;
            method = (ExecutableElement) trees.getElement(getCurrentPath());
            calls.putIfAbsent(method, new HashSet<>());
            c.due("3: what it answers" + at(tree), tree.getReturnType() == null || isTold(method.getReturnType()), true);
            super.visitMethod(tree, none);
            method = outer;
            return null;
        }

        @Override
        public Void visitMethodInvocation(MethodInvocationTree tree, Void none) {
            ExecutableElement called = (ExecutableElement) trees.getElement(getCurrentPath());
            String owner = called.getEnclosingElement().getSimpleName().toString();
            if (own.contains(owner)) {
                calls.get(method).add(called);
            } else {
                String name = owner + "." + called.getSimpleName();
                c.due("4: " + name + at(tree), LIBRARY.contains(name), true);
                lookAtArguments(name, tree);
            }
            return super.visitMethodInvocation(tree, none);
        }

        private void lookAtArguments(String name, MethodInvocationTree tree) {
            for (ExpressionTree argument : tree.getArguments()) {
                TypeMirror type = typeOf(argument);
                boolean rows = type.getKind() == TypeKind.ARRAY;
                c.due("4: over rows of numbers" + at(tree), !rows || !OVER_NUMBERS.contains(name) || isNumbers(type), true);
                boolean sign = !name.equals("String.indexOf") || type.getKind() == TypeKind.CHAR;
                c.due("4: indexOf of a char" + at(tree), sign, true);
            }
        }

        @Override
        public Void visitNewClass(NewClassTree tree, Void none) {
            c.due("2: no class without a name" + at(tree), tree.getClassBody() == null, true);
            c.due("4: an own class" + at(tree), isOwn(typeOf(tree)), true);
            lookWhereMade(tree);
            if (method != null) {
                calls.get(method).add((ExecutableElement) trees.getElement(getCurrentPath()));
            }
            return super.visitNewClass(tree, none);
        }

        @Override
        public Void visitNewArray(NewArrayTree tree, Void none) {
            lookWhereMade(tree);
            return super.visitNewArray(tree, none);
        }

        /** Rule 12, and more than it asks: nothing is made but with the object. */
        private void lookWhereMade(Tree tree) {
            c.due("12: made with the object" + at(tree), method == null || method.getSimpleName().contentEquals("<init>"), true);
        }

        @Override
        public Void visitBinary(BinaryTree tree, Void none) {
            boolean texts = isText(tree.getLeftOperand()) || isText(tree.getRightOperand());
            c.due("6, 10: no " + tree.getKind() + " of Strings" + at(tree), texts, false);
            boolean equals = tree.getKind() == Tree.Kind.EQUAL_TO || tree.getKind() == Tree.Kind.NOT_EQUAL_TO;
            boolean rows = typeOf(tree.getLeftOperand()).getKind() == TypeKind.ARRAY;
            c.due("6: no == of rows" + at(tree), equals && rows, false);
            return super.visitBinary(tree, none);
        }

        private boolean isText(ExpressionTree tree) {
            return typeOf(tree).toString().equals("java.lang.String");
        }

        @Override
        public Void visitTypeCast(TypeCastTree tree, Void none) {
            c.due("6: a cast of numbers" + at(tree), typeOf(tree.getType()).getKind().isPrimitive(), true);
            return super.visitTypeCast(tree, none);
        }

        @Override
        public Void visitForLoop(ForLoopTree tree, Void none) {
            c.due("9: an end" + at(tree), tree.getCondition() != null && bounds(tree.getCondition()), true);
            return super.visitForLoop(tree, none);
        }

        @Override
        public Void visitWhileLoop(WhileLoopTree tree, Void none) {
            c.due("9: an end" + at(tree), bounds(tree.getCondition()), true);
            return super.visitWhileLoop(tree, none);
        }

        @Override
        public Void visitDoWhileLoop(DoWhileLoopTree tree, Void none) {
            c.due("9: an end" + at(tree), bounds(tree.getCondition()), true);
            return super.visitDoWhileLoop(tree, none);
        }

        /** Whether a comparison with a bound must hold for the loop to go on. */
        private boolean bounds(ExpressionTree condition) {
            switch (condition.getKind()) {
                case PARENTHESIZED:
                    return bounds(((ParenthesizedTree) condition).getExpression());
                case CONDITIONAL_AND:
                    return bounds(((BinaryTree) condition).getLeftOperand()) || bounds(((BinaryTree) condition).getRightOperand());
                case LESS_THAN:
                case LESS_THAN_EQUAL:
                case GREATER_THAN:
                case GREATER_THAN_EQUAL:
                    return true;
                default:
                    return false;
            }
        }

        @Override
        public Void visitAnnotation(AnnotationTree tree, Void none) {
            never("no annotation", tree);
            return null;
        }

        @Override
        public Void visitLambdaExpression(LambdaExpressionTree tree, Void none) {
            never("2: a lambda", tree);
            return null;
        }

        @Override
        public Void visitMemberReference(MemberReferenceTree tree, Void none) {
            never("2: a method reference", tree);
            return null;
        }

        @Override
        public Void visitInstanceOf(InstanceOfTree tree, Void none) {
            never("6: instanceof", tree);
            return null;
        }

        @Override
        public Void visitThrow(ThrowTree tree, Void none) {
            never("6: throw", tree);
            return null;
        }

        @Override
        public Void visitTry(TryTree tree, Void none) {
            never("6: try", tree);
            return null;
        }

        @Override
        public Void visitSynchronized(SynchronizedTree tree, Void none) {
            never("6: synchronized", tree);
            return null;
        }

        @Override
        public Void visitAssert(AssertTree tree, Void none) {
            never("6: assert", tree);
            return null;
        }
    }
}
