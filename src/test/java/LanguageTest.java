import com.sun.source.tree.*;
import com.sun.source.util.JavacTask;
import com.sun.source.util.TreePath;
import com.sun.source.util.TreePathScanner;
import com.sun.source.util.Trees;
import java.io.IOException;
import java.nio.file.Path;
import java.util.ArrayList;
import java.util.Arrays;
import java.util.HashSet;
import java.util.List;
import java.util.Map;
import java.util.Set;
import java.util.TreeMap;
import java.util.TreeSet;
import javax.lang.model.element.Element;
import javax.lang.model.element.ElementKind;
import javax.lang.model.element.ExecutableElement;
import javax.lang.model.element.Modifier;
import javax.lang.model.type.ArrayType;
import javax.lang.model.type.TypeMirror;
import javax.tools.JavaCompiler;
import javax.tools.StandardJavaFileManager;
import javax.tools.ToolProvider;

/** The rules of LANGUAGE.md that can be read off the source, by the compiler's own reading of it. */
public final class LanguageTest {
    private static final Due DUE = new Due("LanguageTest");
    private static final Path SOURCE = Path.of("src/main/java/BellThatIsADoor.java");
    private static final Set<String> TEXTS = setOf("java.lang.String java.lang.StringBuilder");
    // Of the library only what the class uses: more of rule 4 may be added here when it is used.
    private static final Set<String> LIBRARY = setOf("Math.max Math.min Math.abs Integer.bitCount System.arraycopy");
    private static final Set<String> EXCEPTIONS = setOf("IllegalStateException IllegalArgumentException "
        + "IndexOutOfBoundsException ArithmeticException UnsupportedOperationException NoSuchElementException "
        + "RuntimeException");
    private static final Set<Tree.Kind> NEVER = Set.of(Tree.Kind.LAMBDA_EXPRESSION, Tree.Kind.MEMBER_REFERENCE,
        Tree.Kind.SYNCHRONIZED, Tree.Kind.ASSERT, Tree.Kind.SWITCH_EXPRESSION, Tree.Kind.ANNOTATION, Tree.Kind.IMPORT,
        Tree.Kind.PACKAGE);
    private static final int MOST_LINES = 60;
    private static final int MOST_PARAMETERS = 7;
    private static final int MOST_DEEP = 8;
    private static final int MOST_CLASSES = 12;
    private static final int MOST_FIELDS = 20;

    private LanguageTest() {
    }

    public static void main(String[] args) throws IOException {
        JavaCompiler compiler = ToolProvider.getSystemJavaCompiler();
        StandardJavaFileManager files = compiler.getStandardFileManager(null, null, null);
        JavacTask task = (JavacTask) compiler.getTask(null, files, null, List.of("-proc:none"), null,
            files.getJavaFileObjects(SOURCE));
        CompilationUnitTree unit = task.parse().iterator().next();
        task.analyze();
        Reader reader = new Reader(Trees.instance(task), unit);
        reader.scan(new TreePath(unit), null);
        DUE.is("classes, some twelve at most (rule 11)", Math.max(MOST_CLASSES, reader.classes), MOST_CLASSES);
        recursion(reader);
        depth(reader);
        DUE.end();
    }

    private static Set<String> setOf(String words) {
        return new HashSet<>(Arrays.asList(words.split(" ")));
    }

    /** Rule 8: a method that calls itself is private and static; private are those that call one another. */
    private static void recursion(Reader reader) {
        for (String method : reader.calls.keySet()) {
            boolean callsItself = reader.calls.get(method).contains(method);
            Set<Modifier> modifiers = reader.modifiers.get(method);
            boolean isStatic = modifiers.contains(Modifier.PRIVATE) && modifiers.contains(Modifier.STATIC);
            DUE.is(method + " calls itself, and is not private and static (rule 8)", callsItself && !isStatic ? 1 : 0, 0);
            boolean goesRound = reader.reached(method).contains(method);
            DUE.is(method + " comes back to itself, and is not private (rule 8)",
                goesRound && !modifiers.contains(Modifier.PRIVATE) ? 1 : 0, 0);
        }
    }

    /** Rule 11: calls that are no recursion go at most eight deep. */
    private static void depth(Reader reader) {
        for (String method : reader.calls.keySet()) {
            int deep = reader.deepBelow(method, new TreeSet<>());
            DUE.is(method + " goes deeper than eight (rule 11), so deep", deep > MOST_DEEP ? deep : 0, 0);
        }
    }

    /** Reads the source once, tells what is outside the rules, and keeps who calls whom. */
    private static final class Reader extends TreePathScanner<Void, Void> {
        final Map<String, Set<String>> calls = new TreeMap<>();
        final Map<String, Set<Modifier>> modifiers = new TreeMap<>();
        int classes;
        private final Trees trees;
        private final CompilationUnitTree unit;
        private final List<String> methods = new ArrayList<>();

        Reader(Trees trees, CompilationUnitTree unit) {
            this.trees = trees;
            this.unit = unit;
        }

        Set<String> reached(String from) {
            Set<String> all = new TreeSet<>();
            List<String> next = new ArrayList<>(calls.getOrDefault(from, Set.of()));
            while (!next.isEmpty()) {
                String one = next.remove(next.size() - 1);
                if (all.add(one)) {
                    next.addAll(calls.getOrDefault(one, Set.of()));
                }
            }
            return all;
        }

        int deepBelow(String method, Set<String> open) {
            int most = 0;
            open.add(method);
            for (String called : calls.getOrDefault(method, Set.of())) {
                most = open.contains(called) ? most : Math.max(most, deepBelow(called, open));
            }
            open.remove(method);
            return most + 1;
        }

        private void rule(String told, boolean holds) {
            Tree tree = getCurrentPath().getLeaf();
            long line = unit.getLineMap().getLineNumber(trees.getSourcePositions().getStartPosition(unit, tree));
            DUE.is("line " + line + " (" + told + ")", holds ? 1 : 0, 1);
        }

        private long lines(Tree tree) {
            long from = trees.getSourcePositions().getStartPosition(unit, tree);
            long to = trees.getSourcePositions().getEndPosition(unit, tree);
            return unit.getLineMap().getLineNumber(to) - unit.getLineMap().getLineNumber(from) + 1;
        }

        private Element element() {
            return trees.getElement(getCurrentPath());
        }

        private boolean isOwn(Element one) {
            return trees.getPath(one) != null;
        }

        private static String nameOf(Element method) {
            return method.getEnclosingElement().getSimpleName() + "." + method;
        }

        private boolean isConstructor() {
            return methods.get(methods.size() - 1).contains("<init>");
        }

        @Override
        public Void scan(Tree tree, Void none) {
            if (tree != null && NEVER.contains(tree.getKind())) {
                DUE.is("no " + tree.getKind() + ": " + tree, 1, 0);
            }
            return super.scan(tree, none);
        }

        @Override
        public Void visitClass(ClassTree tree, Void none) {
            classes++;
            Element one = element();
            rule("rule 2: no local class", one.getEnclosingElement().getKind() != ElementKind.METHOD);
            int fields = 0;
            for (Element inside : one.getEnclosedElements()) {
                fields += inside.getKind() == ElementKind.FIELD && !inside.getModifiers().contains(Modifier.STATIC) ? 1 : 0;
            }
            rule("rule 11: some twenty fields", fields <= MOST_FIELDS);
            return super.visitClass(tree, none);
        }

        @Override
        public Void visitMethod(MethodTree tree, Void none) {
            String name = tree.getName().contentEquals("<init>")
                ? element().getEnclosingElement().getSimpleName() + ".<init>" : nameOf(element());
            calls.put(name, new TreeSet<>());
            modifiers.put(name, element().getModifiers());
            rule("rule 11: seven parameters at most", tree.getParameters().size() <= MOST_PARAMETERS);
            rule("rule 11: some sixty lines at most", lines(tree) <= MOST_LINES);
            methods.add(name);
            super.visitMethod(tree, none);
            methods.remove(name);
            return null;
        }

        @Override
        public Void visitMethodInvocation(MethodInvocationTree tree, Void none) {
            ExecutableElement called = (ExecutableElement) element();
            boolean isAbove = called.getKind() == ElementKind.CONSTRUCTOR;
            String owner = called.getEnclosingElement().getSimpleName().toString();
            if (isOwn(called) && !isAbove && !methods.isEmpty()) {
                calls.get(methods.get(methods.size() - 1)).add(nameOf(called));
            }
            rule("rule 4: the library: " + owner + "." + called.getSimpleName(),
                isAbove || isOwn(called) || LIBRARY.contains(owner + "." + called.getSimpleName()));
            if (!methods.isEmpty() && isConstructor() && !isAbove) {
                Set<Modifier> of = called.getModifiers();
                boolean isFixed = of.contains(Modifier.STATIC) || of.contains(Modifier.PRIVATE) || !isOwn(called);
                rule("rule 12: a constructor calls nothing that could be overridden", isFixed);
            }
            return super.visitMethodInvocation(tree, none);
        }

        @Override
        public Void visitNewClass(NewClassTree tree, Void none) {
            TypeMirror type = trees.getTypeMirror(getCurrentPath());
            boolean isOwn = type.toString().startsWith("BellThatIsADoor");
            boolean isThrown = getCurrentPath().getParentPath().getLeaf().getKind() == Tree.Kind.THROW;
            rule("rule 4: what is made: " + type, isOwn || isThrown);
            return super.visitNewClass(tree, none);
        }

        @Override
        public Void visitVariable(VariableTree tree, Void none) {
            Element one = element();
            boolean isCaught = getCurrentPath().getParentPath().getLeaf().getKind() == Tree.Kind.CATCH;
            rule("rule 3: a type: " + one.asType(), isCaught || isOfTheLanguage(one.asType()));
            if (one.getModifiers().contains(Modifier.STATIC)) {
                rule("rule 5: static fields are final", one.getModifiers().contains(Modifier.FINAL));
            }
            return super.visitVariable(tree, none);
        }

        private static boolean isOfTheLanguage(TypeMirror type) {
            if (type.getKind().isPrimitive()) {
                return true;
            }
            if (type instanceof ArrayType) {
                TypeMirror of = ((ArrayType) type).getComponentType();
                boolean isRowOfRows = of instanceof ArrayType;
                return isRowOfRows ? ((ArrayType) of).getComponentType().getKind().isPrimitive() : isOfTheLanguage(of);
            }
            return type.toString().startsWith("BellThatIsADoor") || TEXTS.contains(type.toString());
        }

        @Override
        public Void visitThrow(ThrowTree tree, Void none) {
            boolean isNew = tree.getExpression() instanceof NewClassTree;
            rule("rule 6: throw new", isNew);
            if (isNew) {
                NewClassTree made = (NewClassTree) tree.getExpression();
                rule("rule 6: one of these exceptions", EXCEPTIONS.contains(made.getIdentifier().toString()));
                boolean isWritten = made.getArguments().size() <= 1
                    && made.getArguments().stream().allMatch(text -> text.getKind() == Tree.Kind.STRING_LITERAL);
                rule("rule 6: a written text", isWritten);
            }
            rule("rule 6: no throw in a constructor", !isConstructor());
            return super.visitThrow(tree, none);
        }

        @Override
        public Void visitTry(TryTree tree, Void none) {
            rule("rule 6: no finally, no resources", tree.getFinallyBlock() == null && tree.getResources().isEmpty());
            for (CatchTree one : tree.getCatches()) {
                VariableTree caught = one.getParameter();
                rule("rule 6: one of these is caught", EXCEPTIONS.contains(caught.getType().toString()));
                boolean isUsed = one.getBlock().toString().matches("(?s).*\\b" + caught.getName() + "\\b.*");
                rule("rule 6: a catch leaves the exception alone", !isUsed);
            }
            boolean holdsThrow = tree.getBlock().toString().contains("throw ");
            rule("rule 6: no catch in the method that holds the throw", !holdsThrow);
            return super.visitTry(tree, none);
        }

        @Override
        public Void visitBinary(BinaryTree tree, Void none) {
            TypeMirror type = trees.getTypeMirror(getCurrentPath());
            rule("rule 10: texts are not joined by +", type.getKind().isPrimitive());
            return super.visitBinary(tree, none);
        }
    }
}
