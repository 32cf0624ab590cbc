import com.sun.source.tree.AssertTree;
import com.sun.source.tree.BinaryTree;
import com.sun.source.tree.CatchTree;
import com.sun.source.tree.ClassTree;
import com.sun.source.tree.CompilationUnitTree;
import com.sun.source.tree.CompoundAssignmentTree;
import com.sun.source.tree.ExpressionTree;
import com.sun.source.tree.IdentifierTree;
import com.sun.source.tree.ImportTree;
import com.sun.source.tree.InstanceOfTree;
import com.sun.source.tree.LambdaExpressionTree;
import com.sun.source.tree.LiteralTree;
import com.sun.source.tree.MemberReferenceTree;
import com.sun.source.tree.MethodInvocationTree;
import com.sun.source.tree.MethodTree;
import com.sun.source.tree.NewArrayTree;
import com.sun.source.tree.NewClassTree;
import com.sun.source.tree.SynchronizedTree;
import com.sun.source.tree.ThrowTree;
import com.sun.source.tree.Tree;
import com.sun.source.tree.TryTree;
import com.sun.source.tree.TypeCastTree;
import com.sun.source.tree.VariableTree;
import com.sun.source.util.JavacTask;
import com.sun.source.util.TreePathScanner;
import com.sun.source.util.Trees;
import java.io.IOException;
import java.nio.file.Path;
import java.util.ArrayList;
import java.util.HashSet;
import java.util.List;
import java.util.Map;
import java.util.Set;
import java.util.TreeMap;
import java.util.TreeSet;
import javax.lang.model.element.Element;
import javax.lang.model.element.ElementKind;
import javax.lang.model.element.ExecutableElement;
import javax.lang.model.element.Modifier;
import javax.lang.model.element.TypeElement;
import javax.lang.model.type.TypeMirror;
import javax.tools.JavaCompiler;
import javax.tools.StandardJavaFileManager;
import javax.tools.ToolProvider;

/**
 * The source of the class beside ../shared/LANGUAGE.md, as far as a compiler's tree can tell. It asks more than the
 * rules do where the class can bear it: nothing is caught, and nothing made but in constructors and for exceptions.
 */
public final class LanguageTest {
    private static final Path SOURCE = Path.of("src", "main", "java", "CoveredSigns.java");
    private static final int LINES = 60;
    private static final int PARAMETERS = 7;
    private static final int DEPTH = 8;
    private static final int CLASSES = 12;
    private static final int FIELDS = 20;

    private static final Set<String> IMPORTS = Set.of("java.util.Arrays", "java.util.NoSuchElementException");
    private static final Set<String> TYPES = Set.of("void", "int", "long", "byte", "char", "boolean", "java.lang.String");
    private static final Set<String> CALLS = Set.of("java.lang.String.length", "java.lang.String.charAt",
            "java.lang.Integer.bitCount", "java.lang.Long.bitCount", "java.lang.Math.min", "java.lang.Math.max",
            "java.lang.System.arraycopy", "java.util.Arrays.fill", "java.lang.Object.<init>");
    private static final Set<String> EXCEPTIONS = Set.of("IllegalArgumentException", "IndexOutOfBoundsException",
            "NoSuchElementException");
    /** Those that call themselves or one another; each carries its depth and refuses to go deeper. */
    private static final Set<String> RECURSIONS = Set.of("Alphabet.findsPartner", "RuleText.choice", "RuleText.both",
            "RuleText.single", "Tangle.pairUp", "LeastPart.grows", "Codes.grow");

    private LanguageTest() {
    }

    public static void main(String[] args) throws IOException {
        Texts.about("LANGUAGE.md");
        JavaCompiler compiler = ToolProvider.getSystemJavaCompiler();
        try (StandardJavaFileManager files = compiler.getStandardFileManager(null, null, null)) {
            JavacTask task = (JavacTask) compiler.getTask(null, files, null, List.of("-Xlint:all"), null,
                    files.getJavaFileObjects(SOURCE));
            Iterable<? extends CompilationUnitTree> units = task.parse();
            task.analyze();
            Look look = new Look(Trees.instance(task));
            for (CompilationUnitTree unit : units) {
                look.scan(unit, null);
            }
            look.end();
            Texts.end();
            System.out.println("the source keeps to the language: " + look.classes + " classes, " + look.calls.size()
                    + " methods, calls at most " + look.deepest + " deep");
        }
    }

    private static final class Look extends TreePathScanner<Void, Void> {
        private final Trees trees;
        private final Map<String, Set<String>> calls = new TreeMap<>();
        private final Set<String> faces = new TreeSet<>();
        private final Set<String> hidden = new TreeSet<>();
        private CompilationUnitTree unit;
        private String method = "";
        private boolean making;
        private int classes;
        private int deepest;

        Look(Trees trees) {
            this.trees = trees;
        }

        private void complain(Tree tree, String text) {
            long at = trees.getSourcePositions().getStartPosition(unit, tree);
            Texts.complain("line " + unit.getLineMap().getLineNumber(at) + ": " + text);
        }

        private void ban(Tree tree, boolean banned, String text) {
            if (banned) {
                complain(tree, text);
            }
        }

        @Override
        public Void visitCompilationUnit(CompilationUnitTree tree, Void none) {
            unit = tree;
            ban(tree, tree.getPackageName() != null, "a package line");
            return super.visitCompilationUnit(tree, none);
        }

        @Override
        public Void visitImport(ImportTree tree, Void none) {
            ban(tree, tree.isStatic() || !IMPORTS.contains(tree.getQualifiedIdentifier().toString()), "another import");
            return null;
        }

        @Override
        public Void visitClass(ClassTree tree, Void none) {
            classes++;
            int fields = 0;
            Set<Modifier> flags = tree.getModifiers().getFlags();
            boolean outer = getCurrentPath().getParentPath().getLeaf() == unit;
            ban(tree, !outer && !flags.contains(Modifier.STATIC), "a class inside that is not static");
            ban(tree, !outer && (flags.contains(Modifier.PUBLIC) || flags.contains(Modifier.PROTECTED)), "a class inside for all");
            ban(tree, tree.getKind() != Tree.Kind.CLASS, "no plain class");
            for (Tree member : tree.getMembers()) {
                ban(member, member.getKind() == Tree.Kind.BLOCK, "an initialiser block");
                if (member instanceof VariableTree field && !field.getModifiers().getFlags().contains(Modifier.STATIC)) {
                    fields++;
                }
            }
            ban(tree, fields > FIELDS, fields + " fields");
            return super.visitClass(tree, none);
        }

        @Override
        public Void visitVariable(VariableTree tree, Void none) {
            Element variable = trees.getElement(getCurrentPath());
            Set<Modifier> flags = tree.getModifiers().getFlags();
            checkType(tree, variable.asType());
            if (variable.getKind() == ElementKind.FIELD && flags.contains(Modifier.STATIC)) {
                ban(tree, !flags.contains(Modifier.FINAL), "a static field that is not final");
                ban(tree, variable.asType().toString().contains("["), "a static array");
            }
            if (variable.getKind() == ElementKind.FIELD) {
                ban(tree, !flags.contains(Modifier.PRIVATE) && !tree.getName().contentEquals("NONE"), "a field that is not private");
                making = true;
            }
            super.visitVariable(tree, none);
            if (variable.getKind() == ElementKind.FIELD) {
                making = false;
            }
            return null;
        }

        private void checkType(Tree tree, TypeMirror type) {
            String name = type.toString().replaceFirst("\\[\\]$", "");
            ban(tree, !TYPES.contains(name) && !name.startsWith("CoveredSigns"), "type " + type);
        }

        @Override
        public Void visitMethod(MethodTree tree, Void none) {
            ExecutableElement element = (ExecutableElement) trees.getElement(getCurrentPath());
            method = nameOf(element);
            making = element.getKind() == ElementKind.CONSTRUCTOR;
            calls.computeIfAbsent(method, name -> new TreeSet<>());
            if (element.getKind() == ElementKind.METHOD) {
                boolean face = element.getModifiers().contains(Modifier.PUBLIC);
                (face ? faces : hidden).add(element.getSimpleName().toString());
                checkType(tree, element.getReturnType());
            }
            ban(tree, tree.getParameters().size() > PARAMETERS, "too many parameters");
            long begin = trees.getSourcePositions().getStartPosition(unit, tree);
            long end = trees.getSourcePositions().getEndPosition(unit, tree);
            if (end >= 0) {
                long lines = unit.getLineMap().getLineNumber(end) - unit.getLineMap().getLineNumber(begin) + 1;
                ban(tree, lines > LINES, lines + " lines");
            }
            super.visitMethod(tree, none);
            method = "";
            making = false;
            return null;
        }

        private static String nameOf(ExecutableElement element) {
            TypeElement owner = (TypeElement) element.getEnclosingElement();
            return owner.getSimpleName() + "." + element.getSimpleName();
        }

        private void called(Tree tree, ExecutableElement element) {
            TypeElement owner = (TypeElement) element.getEnclosingElement();
            String name = owner.getQualifiedName() + "." + element.getSimpleName();
            if (owner.getQualifiedName().toString().startsWith("CoveredSigns")) {
                calls.computeIfAbsent(method, none -> new TreeSet<>()).add(nameOf(element));
            } else if (element.getKind() != ElementKind.CONSTRUCTOR || !EXCEPTIONS.contains(owner.getSimpleName().toString())) {
                ban(tree, !CALLS.contains(name), "a call of " + name);
                if (!name.endsWith("<init>")) {
                    calls.computeIfAbsent(method, none -> new TreeSet<>()).add(name);
                }
            }
        }

        @Override
        public Void visitMethodInvocation(MethodInvocationTree tree, Void none) {
            if (trees.getElement(getCurrentPath()) instanceof ExecutableElement element) {
                called(tree, element);
            }
            return super.visitMethodInvocation(tree, none);
        }

        @Override
        public Void visitNewClass(NewClassTree tree, Void none) {
            boolean thrown = getCurrentPath().getParentPath().getLeaf().getKind() == Tree.Kind.THROW;
            ban(tree, !thrown && !making, "an object made outside constructors");
            ban(tree, tree.getClassBody() != null, "a class without a name");
            if (trees.getElement(getCurrentPath()) instanceof ExecutableElement element) {
                called(tree, element);
            }
            return super.visitNewClass(tree, none);
        }

        @Override
        public Void visitNewArray(NewArrayTree tree, Void none) {
            ban(tree, !making, "an array made outside constructors");
            return super.visitNewArray(tree, none);
        }

        @Override
        public Void visitThrow(ThrowTree tree, Void none) {
            ExpressionTree thrown = tree.getExpression();
            boolean plain = thrown instanceof NewClassTree made && made.getIdentifier() instanceof IdentifierTree name
                    && EXCEPTIONS.contains(name.getName().toString())
                    && (made.getArguments().isEmpty() || made.getArguments().size() == 1 && made.getArguments().get(0) instanceof LiteralTree);
            ban(tree, !plain, "a throw that is not of a new exception with a written text");
            ban(tree, making, "a throw in a constructor");
            return super.visitThrow(tree, none);
        }

        @Override
        public Void visitTry(TryTree tree, Void none) {
            complain(tree, "try");
            return super.visitTry(tree, none);
        }

        @Override
        public Void visitCatch(CatchTree tree, Void none) {
            complain(tree, "catch");
            return super.visitCatch(tree, none);
        }

        @Override
        public Void visitLambdaExpression(LambdaExpressionTree tree, Void none) {
            complain(tree, "a lambda");
            return super.visitLambdaExpression(tree, none);
        }

        @Override
        public Void visitMemberReference(MemberReferenceTree tree, Void none) {
            complain(tree, "a method reference");
            return super.visitMemberReference(tree, none);
        }

        @Override
        public Void visitAssert(AssertTree tree, Void none) {
            complain(tree, "assert");
            return super.visitAssert(tree, none);
        }

        @Override
        public Void visitSynchronized(SynchronizedTree tree, Void none) {
            complain(tree, "synchronized");
            return super.visitSynchronized(tree, none);
        }

        @Override
        public Void visitInstanceOf(InstanceOfTree tree, Void none) {
            complain(tree, "instanceof");
            return super.visitInstanceOf(tree, none);
        }

        @Override
        public Void visitTypeCast(TypeCastTree tree, Void none) {
            ban(tree, !TYPES.contains(tree.getType().toString()), "a cast of objects");
            return super.visitTypeCast(tree, none);
        }

        @Override
        public Void visitBinary(BinaryTree tree, Void none) {
            boolean divides = tree.getKind() == Tree.Kind.DIVIDE || tree.getKind() == Tree.Kind.REMAINDER;
            ban(tree, divides && !isSafeDivisor(tree.getRightOperand()), "a divisor to look at: " + tree);
            ban(tree, isText(tree.getLeftOperand()) || isText(tree.getRightOperand()), "an operator on texts");
            return super.visitBinary(tree, none);
        }

        @Override
        public Void visitCompoundAssignment(CompoundAssignmentTree tree, Void none) {
            boolean divides = tree.getKind() == Tree.Kind.DIVIDE_ASSIGNMENT || tree.getKind() == Tree.Kind.REMAINDER_ASSIGNMENT;
            ban(tree, divides && !isSafeDivisor(tree.getExpression()), "a divisor to look at: " + tree);
            return super.visitCompoundAssignment(tree, none);
        }

        private boolean isText(Tree operand) {
            TypeMirror type = trees.getTypeMirror(new com.sun.source.util.TreePath(getCurrentPath(), operand));
            return type != null && type.toString().equals("java.lang.String");
        }

        /** A number written out, or one of the two that cannot be 0: a loop's counter from 1 on, a ball of one or more. */
        private static boolean isSafeDivisor(ExpressionTree divisor) {
            String text = divisor.toString();
            return text.matches("[1-9][0-9]*") || text.equals("unlike") || text.startsWith("ball(");
        }

        void end() {
            ban(unit, classes > CLASSES, classes + " classes");
            Set<String> both = new TreeSet<>(faces);
            both.retainAll(hidden);
            ban(unit, !both.isEmpty(), "hidden methods that bear a name of the face: " + both);
            Set<String> recursions = new TreeSet<>();
            for (String name : calls.keySet()) {
                if (reaches(name, name)) {
                    recursions.add(name);
                }
            }
            ban(unit, !recursions.equals(new TreeSet<>(RECURSIONS)), "those that call themselves are " + recursions);
            for (String name : calls.keySet()) {
                List<String> chain = longest(name, new HashSet<>());
                deepest = Math.max(deepest, chain.size());
                ban(unit, chain.size() > DEPTH, "calls too deep: " + chain);
            }
        }

        private boolean reaches(String from, String to) {
            Set<String> seen = new HashSet<>();
            List<String> open = new ArrayList<>(calls.getOrDefault(from, Set.of()));
            while (!open.isEmpty()) {
                String next = open.remove(open.size() - 1);
                if (next.equals(to)) {
                    return true;
                }
                if (seen.add(next)) {
                    open.addAll(calls.getOrDefault(next, Set.of()));
                }
            }
            return false;
        }

        /** The longest chain of calls, each method once: a round of recursion counts as one. */
        private List<String> longest(String from, Set<String> above) {
            List<String> best = List.of();
            above.add(from);
            for (String next : calls.getOrDefault(from, Set.of())) {
                if (!above.contains(next)) {
                    List<String> chain = longest(next, above);
                    best = chain.size() > best.size() ? chain : best;
                }
            }
            above.remove(from);
            List<String> whole = new ArrayList<>(List.of(from));
            whole.addAll(best);
            return whole;
        }
    }
}
