import com.sun.source.tree.AssertTree;
import com.sun.source.tree.CompilationUnitTree;
import com.sun.source.tree.ImportTree;
import com.sun.source.tree.InstanceOfTree;
import com.sun.source.tree.LambdaExpressionTree;
import com.sun.source.tree.LiteralTree;
import com.sun.source.tree.MemberReferenceTree;
import com.sun.source.tree.MethodInvocationTree;
import com.sun.source.tree.MethodTree;
import com.sun.source.tree.NewArrayTree;
import com.sun.source.tree.NewClassTree;
import com.sun.source.tree.SynchronizedTree;
import com.sun.source.tree.ThrowTree;
import com.sun.source.tree.Tree;
import com.sun.source.tree.TryTree;
import com.sun.source.tree.TypeCastTree;
import com.sun.source.tree.WhileLoopTree;
import com.sun.source.util.JavacTask;
import com.sun.source.util.SourcePositions;
import com.sun.source.util.TreeScanner;
import com.sun.source.util.Trees;
import java.io.File;
import java.io.IOException;
import java.lang.reflect.Constructor;
import java.lang.reflect.Field;
import java.lang.reflect.Method;
import java.lang.reflect.Modifier;
import java.util.ArrayList;
import java.util.Arrays;
import java.util.List;
import java.util.Set;
import java.util.TreeSet;
import java.util.stream.Collectors;
import javax.tools.JavaCompiler;
import javax.tools.StandardJavaFileManager;
import javax.tools.ToolProvider;

/** The public face of the document, and what of LANGUAGE.md can be looked for in the source. Run from the project's root. */
public final class LanguageTests {
    private static final File SOURCE = new File("src/main/java/PeerNotes.java");
    private static final int MOST_METHOD_LINES = 60;
    private static final int MOST_PARAMETERS = 7;
    private static final int MOST_FIELDS = 20;
    private static final int MOST_CLASSES = 12;

    private static final String[] FACE = {"int addInvestor(int)", "int deposit(int,int)", "int setPoolShare(int)",
        "int openLoan(int,int,int)", "int fund(int,int,boolean,int)", "int giveUp(int)", "int pay(int,int)",
        "int cure(int,int)", "int sell(int,int)", "int switchServicer(int,int)", "int sellNote(int,int,int)",
        "int pass(int)", "int type(char)", "int clearText()", "int readFundings()", "int undo()", "int keep()",
        "int restore()", "int investor(int,int)", "int loan(int,int)", "int note(int,int)", "int split(int,int,int)",
        "int toRepay(int)", "int servicer(int,int)", "int count(int)"};
    private static final String[] CONSTANTS = {"UNKNOWN", "BAD_VALUE", "FULL", "NOT_POSSIBLE", "NONE"};

    private static int wrong = 0;

    private static void due(String what, boolean holds) {
        if (!holds) {
            wrong++;
            System.out.println("not as due: " + what);
        }
    }

    public static void main(String[] args) throws IOException {
        face();
        members();
        source();
        System.out.println(wrong == 0 ? "the class keeps to its face and language" : wrong + " faults");
        if (wrong != 0) {
            System.exit(1);
        }
    }

    private static String face(Method method) {
        return method.getReturnType().getName() + " " + method.getName() + "("
            + Arrays.stream(method.getParameterTypes()).map(Class::getName).collect(Collectors.joining(",")) + ")";
    }

    private static void face() {
        Class<?> type = PeerNotes.class;
        due("the class is public and final", Modifier.isPublic(type.getModifiers()) && Modifier.isFinal(type.getModifiers()));
        Set<String> methods = new TreeSet<>();
        for (Method method : type.getDeclaredMethods()) {
            if (!Modifier.isPrivate(method.getModifiers())) {
                methods.add(face(method));
                due(method + " is public and not static",
                    Modifier.isPublic(method.getModifiers()) && !Modifier.isStatic(method.getModifiers()));
            }
        }
        due("methods of the face: " + methods, methods.equals(new TreeSet<>(Arrays.asList(FACE))));
        Set<String> fields = new TreeSet<>();
        for (Field field : type.getDeclaredFields()) {
            if (!Modifier.isPrivate(field.getModifiers())) {
                fields.add(field.getName());
                due(field + " is a public static final int", field.getType() == int.class
                    && field.getModifiers() == (Modifier.PUBLIC | Modifier.STATIC | Modifier.FINAL));
            }
        }
        due("constants of the face: " + fields, fields.equals(new TreeSet<>(Arrays.asList(CONSTANTS))));
        Constructor<?>[] constructors = type.getDeclaredConstructors();
        due("one public constructor without parameters", constructors.length == 1
            && constructors[0].getParameterCount() == 0 && Modifier.isPublic(constructors[0].getModifiers()));
    }

    private static void members() {
        Set<String> publicNames = Arrays.stream(FACE).map(row -> row.substring(4, row.indexOf('(')))
            .collect(Collectors.toSet());
        List<Class<?>> classes = new ArrayList<>(List.of(PeerNotes.class.getDeclaredClasses()));
        due("classes: " + (classes.size() + 1), classes.size() < MOST_CLASSES);
        for (Class<?> inside : classes) {
            due(inside + " is static and not public", Modifier.isStatic(inside.getModifiers())
                && !Modifier.isPublic(inside.getModifiers()) && !Modifier.isProtected(inside.getModifiers()));
            for (Method method : inside.getDeclaredMethods()) {
                due(method + " bears a public method's name", !publicNames.contains(method.getName()));
            }
        }
        classes.add(PeerNotes.class);
        for (Class<?> each : classes) {
            int fields = 0;
            for (Field field : each.getDeclaredFields()) {
                if (Modifier.isStatic(field.getModifiers())) {
                    due(field + " is final", Modifier.isFinal(field.getModifiers()));
                } else {
                    fields++;
                }
            }
            due(each + " has " + fields + " fields", fields <= MOST_FIELDS);
            for (Method method : each.getDeclaredMethods()) {
                due(method + " has few parameters", method.getParameterCount() <= MOST_PARAMETERS);
                due(method + ": a private method bears a public one's name", each != PeerNotes.class
                    || Modifier.isPublic(method.getModifiers()) || !publicNames.contains(method.getName()));
            }
        }
    }

    private static void source() throws IOException {
        JavaCompiler compiler = ToolProvider.getSystemJavaCompiler();
        due("a compiler is there", compiler != null);
        if (compiler == null) {
            return;
        }
        try (StandardJavaFileManager files = compiler.getStandardFileManager(null, null, null)) {
            JavacTask task = (JavacTask) compiler.getTask(null, files, null, null, null,
                files.getJavaFileObjects(SOURCE));
            for (CompilationUnitTree unit : task.parse()) {
                due("no package", unit.getPackage() == null);
                new Looker(unit, Trees.instance(task).getSourcePositions()).scan(unit, null);
            }
        }
    }

    /** Looks for what the language leaves out, and for what the class does not need of it. */
    private static final class Looker extends TreeScanner<Void, Void> {
        final CompilationUnitTree unit;
        final SourcePositions positions;
        String method = "";

        Looker(CompilationUnitTree unit, SourcePositions positions) {
            this.unit = unit;
            this.positions = positions;
        }

        long line(long position) {
            return unit.getLineMap().getLineNumber(position);
        }

        void never(Tree tree) {
            due("line " + line(positions.getStartPosition(unit, tree)) + ": " + tree.getKind(), false);
        }

        @Override
        public Void visitMethod(MethodTree tree, Void none) {
            long lines = 1 + line(positions.getEndPosition(unit, tree)) - line(positions.getStartPosition(unit, tree));
            due(tree.getName() + " has " + lines + " lines", lines <= MOST_METHOD_LINES);
            due(tree.getName() + " tells no exceptions", tree.getThrows().isEmpty());
            method = tree.getName().toString();
            super.visitMethod(tree, none);
            method = "";
            return null;
        }

        /** Rows are made in constructors and used again: the room of a run is small. */
        @Override
        public Void visitNewClass(NewClassTree tree, Void none) {
            if (tree.getClassBody() != null || !method.isEmpty() && !method.equals("<init>")) {
                never(tree);
            }
            return super.visitNewClass(tree, none);
        }

        @Override
        public Void visitNewArray(NewArrayTree tree, Void none) {
            if (!method.isEmpty() && !method.equals("<init>")) {
                never(tree);
            }
            return super.visitNewArray(tree, none);
        }

        @Override
        public Void visitMethodInvocation(MethodInvocationTree tree, Void none) {
            String called = tree.getMethodSelect().toString();
            due(called + " is not of the library", !called.startsWith("System.") && !called.startsWith("Thread."));
            due(called + " may throw", !called.endsWith("Exact"));
            return super.visitMethodInvocation(tree, none);
        }

        @Override
        public Void visitLiteral(LiteralTree tree, Void none) {
            if (tree.getKind() == Tree.Kind.STRING_LITERAL || tree.getKind() == Tree.Kind.NULL_LITERAL) {
                never(tree);
            }
            return super.visitLiteral(tree, none);
        }

        @Override
        public Void visitTypeCast(TypeCastTree tree, Void none) {
            String to = tree.getType().toString();
            if (!to.equals("int") && !to.equals("long")) {
                never(tree);
            }
            return super.visitTypeCast(tree, none);
        }

        @Override
        public Void visitImport(ImportTree tree, Void none) {
            never(tree);
            return null;
        }

        @Override
        public Void visitThrow(ThrowTree tree, Void none) {
            never(tree);
            return null;
        }

        @Override
        public Void visitTry(TryTree tree, Void none) {
            never(tree);
            return null;
        }

        @Override
        public Void visitSynchronized(SynchronizedTree tree, Void none) {
            never(tree);
            return null;
        }

        @Override
        public Void visitAssert(AssertTree tree, Void none) {
            never(tree);
            return null;
        }

        @Override
        public Void visitInstanceOf(InstanceOfTree tree, Void none) {
            never(tree);
            return null;
        }

        @Override
        public Void visitLambdaExpression(LambdaExpressionTree tree, Void none) {
            never(tree);
            return null;
        }

        @Override
        public Void visitMemberReference(MemberReferenceTree tree, Void none) {
            never(tree);
            return null;
        }

        @Override
        public Void visitWhileLoop(WhileLoopTree tree, Void none) {
            never(tree);
            return null;
        }
    }
}
