import com.sun.source.tree.ArrayAccessTree;
import com.sun.source.tree.AssertTree;
import com.sun.source.tree.AssignmentTree;
import com.sun.source.tree.BinaryTree;
import com.sun.source.tree.BlockTree;
import com.sun.source.tree.ClassTree;
import com.sun.source.tree.CompilationUnitTree;
import com.sun.source.tree.CompoundAssignmentTree;
import com.sun.source.tree.DoWhileLoopTree;
import com.sun.source.tree.EnhancedForLoopTree;
import com.sun.source.tree.ExpressionTree;
import com.sun.source.tree.ForLoopTree;
import com.sun.source.tree.ImportTree;
import com.sun.source.tree.InstanceOfTree;
import com.sun.source.tree.LambdaExpressionTree;
import com.sun.source.tree.LiteralTree;
import com.sun.source.tree.MemberReferenceTree;
import com.sun.source.tree.MethodInvocationTree;
import com.sun.source.tree.MethodTree;
import com.sun.source.tree.NewArrayTree;
import com.sun.source.tree.NewClassTree;
import com.sun.source.tree.SynchronizedTree;
import com.sun.source.tree.ThrowTree;
import com.sun.source.tree.Tree;
import com.sun.source.tree.TryTree;
import com.sun.source.tree.TypeCastTree;
import com.sun.source.tree.UnaryTree;
import com.sun.source.tree.VariableTree;
import com.sun.source.tree.WhileLoopTree;
import com.sun.source.util.JavacTask;
import com.sun.source.util.TreePathScanner;
import com.sun.source.util.Trees;
import java.io.File;
import java.io.IOException;
import java.util.ArrayList;
import java.util.LinkedHashMap;
import java.util.LinkedHashSet;
import java.util.List;
import java.util.Map;
import java.util.Set;
import javax.lang.model.element.Element;
import javax.lang.model.element.ElementKind;
import javax.lang.model.element.Modifier;
import javax.lang.model.element.TypeElement;
import javax.lang.model.type.ArrayType;
import javax.lang.model.type.TypeKind;
import javax.lang.model.type.TypeMirror;
import javax.tools.JavaCompiler;
import javax.tools.StandardJavaFileManager;
import javax.tools.ToolProvider;

/**
 * What of LANGUAGE.md can be looked for in the source; in some rules it asks for more than they do, as the class needs
 * less. Run from the project's root.
 */
public final class SourceTests {
    private static final File SOURCE = new File("src/main/java/PeerNotes.java");
    private static final int MOST_METHOD_LINES = 60;
    private static final int MOST_CALLS_DEEP = 8;
    private static final Set<String> LIBRARY = Set.of("Math.min", "Math.max");
    private static final Set<TypeKind> PLAIN = Set.of(TypeKind.INT, TypeKind.LONG, TypeKind.CHAR, TypeKind.BOOLEAN);

    private static int wrong = 0;

    private static void due(String what, boolean holds) {
        if (!holds) {
            wrong++;
            System.out.println("not as due: " + what);
        }
    }

    public static void main(String[] args) throws IOException {
        JavaCompiler compiler = ToolProvider.getSystemJavaCompiler();
        due("a compiler is there", compiler != null);
        if (compiler != null) {
            look(compiler);
        }
        System.out.println(wrong == 0 ? "the source keeps to its language" : wrong + " faults");
        if (wrong != 0) {
            System.exit(1);
        }
    }

    private static void look(JavaCompiler compiler) throws IOException {
        try (StandardJavaFileManager files = compiler.getStandardFileManager(null, null, null)) {
            JavacTask task = (JavacTask) compiler.getTask(null, files, null, null, null,
                files.getJavaFileObjects(SOURCE));
            Iterable<? extends CompilationUnitTree> units = task.parse();
            task.analyze();
            for (CompilationUnitTree unit : units) {
                due("no package", unit.getPackage() == null);
                Looker looker = new Looker(unit, Trees.instance(task));
                looker.scan(unit, null);
                new Depths(looker.calls).look();
            }
        }
    }

    /** No method comes back to itself, and none stands more than eight calls deep. */
    private static final class Depths {
        final Map<Element, Set<Element>> calls;
        final Map<Element, Integer> known = new LinkedHashMap<>();
        final List<Element> open = new ArrayList<>();

        Depths(Map<Element, Set<Element>> calls) {
            this.calls = calls;
        }

        void look() {
            due("calls were found", calls.size() > 25);
            for (Element method : calls.keySet()) {
                int depth = depth(method);
                due(method + " opens " + depth + " calls", depth <= MOST_CALLS_DEEP);
            }
        }

        int depth(Element method) {
            if (open.contains(method)) {
                due(method + " comes back to itself", false);
                return 0;
            }
            if (!known.containsKey(method)) {
                open.add(method);
                int deepest = 0;
                for (Element called : calls.getOrDefault(method, Set.of())) {
                    deepest = Math.max(deepest, depth(called));
                }
                open.remove(method);
                known.put(method, deepest + 1);
            }
            return known.get(method);
        }
    }

    private static final class Looker extends TreePathScanner<Void, Void> {
        final CompilationUnitTree unit;
        final Trees trees;
        final Map<Element, Set<Element>> calls = new LinkedHashMap<>();
        MethodTree method = null;
        Element caller = null;

        Looker(CompilationUnitTree unit, Trees trees) {
            this.unit = unit;
            this.trees = trees;
        }

        long line(long position) {
            return unit.getLineMap().getLineNumber(position);
        }

        String at(Tree tree) {
            String text = tree.toString().strip();
            return "line " + line(trees.getSourcePositions().getStartPosition(unit, tree)) + ": "
                + text.substring(0, (text + "\n").indexOf('\n'));
        }

        void never(Tree tree) {
            due("line " + line(trees.getSourcePositions().getStartPosition(unit, tree)) + ": " + tree.getKind(), false);
        }

        boolean isOwn(Element element) {
            Element each = element;
            while (each != null && each.getKind() != ElementKind.PACKAGE) {
                if (each instanceof TypeElement && each.getSimpleName().contentEquals("PeerNotes")) {
                    return true;
                }
                each = each.getEnclosingElement();
            }
            return false;
        }

        // ---- classes, methods and types

        @Override
        public Void visitClass(ClassTree tree, Void none) {
            if (method != null || tree.getKind() != Tree.Kind.CLASS || !tree.getTypeParameters().isEmpty()) {
                never(tree);
            }
            return super.visitClass(tree, none);
        }

        @Override
        public Void visitBlock(BlockTree tree, Void none) {
            due(at(tree) + " is a block of its class", method != null);
            return super.visitBlock(tree, none);
        }

        @Override
        public Void visitMethod(MethodTree tree, Void none) {
            long first = line(trees.getSourcePositions().getStartPosition(unit, tree));
            long lines = 1 + line(trees.getSourcePositions().getEndPosition(unit, tree)) - first;
            due(tree.getName() + " has " + lines + " lines", lines <= MOST_METHOD_LINES);
            due(tree.getName() + " tells no exceptions", tree.getThrows().isEmpty());
            due(tree.getName() + " is of every object", !Set.of("equals", "hashCode", "toString", "finalize", "clone")
                .contains(tree.getName().toString()));
            MethodTree outerMethod = method;
            Element outerCaller = caller;
            method = tree;
            caller = trees.getElement(getCurrentPath());
            calls.computeIfAbsent(caller, element -> new LinkedHashSet<>());
            super.visitMethod(tree, none);
            method = outerMethod;
            caller = outerCaller;
            return null;
        }

        /** Numbers, truths, own classes, and arrays of them of one dimension. */
        @Override
        public Void visitVariable(VariableTree tree, Void none) {
            TypeMirror type = trees.getTypeMirror(getCurrentPath());
            TypeMirror part = type instanceof ArrayType array ? array.getComponentType() : type;
            boolean known = PLAIN.contains(part.getKind())
                || part.getKind() == TypeKind.DECLARED && part.toString().startsWith("PeerNotes.");
            due(at(tree) + " has a type that the class does not need", known);
            Element element = trees.getElement(getCurrentPath());
            if (element.getModifiers().contains(Modifier.STATIC)) {
                due(at(tree) + " is final", element.getModifiers().contains(Modifier.FINAL));
                due(at(tree) + " holds numbers", PLAIN.contains(part.getKind()));
            }
            return super.visitVariable(tree, none);
        }

        // ---- what is made and called

        boolean inConstructorOrField() {
            return method == null || method.getName().contentEquals("<init>");
        }

        /** Rows are made in constructors and used again: the room of a run is small. */
        @Override
        public Void visitNewClass(NewClassTree tree, Void none) {
            due(at(tree) + " is made in a constructor", inConstructorOrField() && tree.getClassBody() == null);
            due(at(tree) + " is of an own class", isOwn(trees.getElement(getCurrentPath())));
            return super.visitNewClass(tree, none);
        }

        @Override
        public Void visitNewArray(NewArrayTree tree, Void none) {
            due(at(tree) + " is made in a constructor", inConstructorOrField());
            return super.visitNewArray(tree, none);
        }

        @Override
        public Void visitMethodInvocation(MethodInvocationTree tree, Void none) {
            Element called = trees.getElement(getCurrentPath());
            String name = tree.getMethodSelect().toString();
            if (isOwn(called)) {
                if (caller != null) {
                    calls.get(caller).add(called);
                }
            } else {
                due(at(tree) + " is of the library", LIBRARY.contains(name) || name.equals("super"));
            }
            return super.visitMethodInvocation(tree, none);
        }

        // ---- loops: a counter that goes up to a bound

        @Override
        public Void visitForLoop(ForLoopTree tree, Void none) {
            String update = tree.getUpdate().toString();
            due(at(tree) + ": its counter goes up by 1", update.matches("\\w+\\+\\+;"));
            String counter = update.replace("++;", "");
            due(at(tree) + ": its counter is below a bound", tree.getCondition() != null
                && tree.getCondition().toString().matches(counter + " < [\\w.]+( && .*)?"));
            due(at(tree) + ": its counter is left alone", !tree.getStatement().toString()
                .matches("(?s).*\\b" + counter + "( [-+*/%&|^]?= |\\+\\+|--).*"));
            return super.visitForLoop(tree, none);
        }

        @Override
        public Void visitWhileLoop(WhileLoopTree tree, Void none) {
            never(tree);
            return null;
        }

        @Override
        public Void visitDoWhileLoop(DoWhileLoopTree tree, Void none) {
            never(tree);
            return null;
        }

        @Override
        public Void visitEnhancedForLoop(EnhancedForLoopTree tree, Void none) {
            never(tree);
            return null;
        }

        // ---- reckoning

        /** A divisor is a number that is not 0, or a name that the same method compares before. */
        @Override
        public Void visitBinary(BinaryTree tree, Void none) {
            if (tree.getKind() == Tree.Kind.DIVIDE || tree.getKind() == Tree.Kind.REMAINDER) {
                String divisor = tree.getRightOperand().toString();
                String before = method == null ? "" : method.getBody().toString();
                due(at(tree) + ": its divisor is looked at", divisor.matches("[1-9][0-9]*")
                    || before.matches("(?s).*\\b" + divisor + " (<|<=|>|>=) [01]\\b.*/ " + divisor + "\\b.*"));
            }
            return super.visitBinary(tree, none);
        }

        @Override
        public Void visitCompoundAssignment(CompoundAssignmentTree tree, Void none) {
            due(at(tree) + " divides", tree.getKind() != Tree.Kind.DIVIDE_ASSIGNMENT
                && tree.getKind() != Tree.Kind.REMAINDER_ASSIGNMENT);
            stays(tree.getVariable());
            return super.visitCompoundAssignment(tree, none);
        }

        @Override
        public Void visitAssignment(AssignmentTree tree, Void none) {
            stays(tree.getVariable());
            return super.visitAssignment(tree, none);
        }

        @Override
        public Void visitUnary(UnaryTree tree, Void none) {
            if (tree.getKind() == Tree.Kind.POSTFIX_INCREMENT || tree.getKind() == Tree.Kind.POSTFIX_DECREMENT
                || tree.getKind() == Tree.Kind.PREFIX_INCREMENT || tree.getKind() == Tree.Kind.PREFIX_DECREMENT) {
                stays(tree.getExpression());
            }
            return super.visitUnary(tree, none);
        }

        /** Arrays of static fields are never changed: they bear names in capitals. */
        void stays(ExpressionTree changed) {
            if (changed instanceof ArrayAccessTree part) {
                due(at(changed) + " changes what is static", !part.getExpression().toString().matches("[A-Z_.]+"));
            }
        }

        @Override
        public Void visitTypeCast(TypeCastTree tree, Void none) {
            due(at(tree) + " is a cast of numbers", Set.of("int", "long").contains(tree.getType().toString()));
            return super.visitTypeCast(tree, none);
        }

        @Override
        public Void visitLiteral(LiteralTree tree, Void none) {
            if (tree.getKind() == Tree.Kind.STRING_LITERAL || tree.getKind() == Tree.Kind.NULL_LITERAL) {
                never(tree);
            }
            return super.visitLiteral(tree, none);
        }

        // ---- what the language leaves out

        @Override
        public Void visitImport(ImportTree tree, Void none) {
            never(tree);
            return null;
        }

        @Override
        public Void visitThrow(ThrowTree tree, Void none) {
            never(tree);
            return null;
        }

        @Override
        public Void visitTry(TryTree tree, Void none) {
            never(tree);
            return null;
        }

        @Override
        public Void visitSynchronized(SynchronizedTree tree, Void none) {
            never(tree);
            return null;
        }

        @Override
        public Void visitAssert(AssertTree tree, Void none) {
            never(tree);
            return null;
        }

        @Override
        public Void visitInstanceOf(InstanceOfTree tree, Void none) {
            never(tree);
            return null;
        }

        @Override
        public Void visitLambdaExpression(LambdaExpressionTree tree, Void none) {
            never(tree);
            return null;
        }

        @Override
        public Void visitMemberReference(MemberReferenceTree tree, Void none) {
            never(tree);
            return null;
        }
    }
}
