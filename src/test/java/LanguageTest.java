import com.sun.source.tree.AssertTree;
import com.sun.source.tree.AssignmentTree;
import com.sun.source.tree.BinaryTree;
import com.sun.source.tree.BlockTree;
import com.sun.source.tree.ClassTree;
import com.sun.source.tree.CompilationUnitTree;
import com.sun.source.tree.CompoundAssignmentTree;
import com.sun.source.tree.DoWhileLoopTree;
import com.sun.source.tree.EnhancedForLoopTree;
import com.sun.source.tree.ExpressionTree;
import com.sun.source.tree.ForLoopTree;
import com.sun.source.tree.LambdaExpressionTree;
import com.sun.source.tree.LiteralTree;
import com.sun.source.tree.MemberReferenceTree;
import com.sun.source.tree.MethodInvocationTree;
import com.sun.source.tree.MethodTree;
import com.sun.source.tree.NewArrayTree;
import com.sun.source.tree.NewClassTree;
import com.sun.source.tree.SynchronizedTree;
import com.sun.source.tree.ThrowTree;
import com.sun.source.tree.Tree;
import com.sun.source.tree.TryTree;
import com.sun.source.tree.TypeCastTree;
import com.sun.source.tree.UnaryTree;
import com.sun.source.tree.VariableTree;
import com.sun.source.tree.WhileLoopTree;
import com.sun.source.util.JavacTask;
import com.sun.source.util.SourcePositions;
import com.sun.source.util.TreePath;
import com.sun.source.util.TreePathScanner;
import com.sun.source.util.TreeScanner;
import com.sun.source.util.Trees;
import java.io.IOException;
import java.nio.file.Files;
import java.nio.file.Path;
import java.util.List;
import java.util.Map;
import java.util.Set;
import java.util.TreeMap;
import java.util.TreeSet;
import javax.lang.model.element.Element;
import javax.lang.model.element.ElementKind;
import javax.lang.model.element.ExecutableElement;
import javax.lang.model.element.Modifier;
import javax.lang.model.element.TypeElement;
import javax.lang.model.element.VariableElement;
import javax.lang.model.type.ArrayType;
import javax.lang.model.type.TypeKind;
import javax.lang.model.type.TypeMirror;
import javax.tools.JavaCompiler;
import javax.tools.StandardJavaFileManager;
import javax.tools.ToolProvider;

/**
 * The rules of LANGUAGE.md that can be seen from the program's text, as javac understands it; each
 * report begins with the number of the rule. Where a rule allows more than the program needs
 * (recursion, try, lists, objects made by methods), the test allows just what the program needs.
 */
public final class LanguageTest {
    private static final Check CHECK = new Check("LanguageTest");
    private static final Path SOURCE = Path.of("src/main/java/SignReforms.java");
    private static final int MOST_PARAMETERS = 7;
    private static final int MOST_LINES = 60;
    private static final int MOST_DEPTH = 8;
    private static final int MOST_CLASSES = 12;
    private static final int MOST_FIELDS = 20;

    /** The calls of rule 4 that the program makes: an array of numbers is not one of booleans. */
    private static final Set<String> LIBRARY = Set.of(
            "java.lang.Math.min(int,int)",
            "java.lang.String.indexOf(int)",
            "java.lang.System.arraycopy(java.lang.Object,int,java.lang.Object,int,int)",
            "java.util.Arrays.fill(int[],int)");

    private static final Set<String> EXCEPTIONS = Set.of("java.lang.IllegalStateException",
            "java.lang.IllegalArgumentException", "java.lang.IndexOutOfBoundsException");

    private static final Set<String> OBJECT_METHODS = Set.of("equals", "hashCode", "toString");

    public static void main(String[] args) throws IOException {
        JavaCompiler compiler = ToolProvider.getSystemJavaCompiler();
        try (StandardJavaFileManager files = compiler.getStandardFileManager(null, null, null)) {
            JavacTask task = (JavacTask) compiler.getTask(null, files, null, List.of("--release", "17"), null,
                    files.getJavaFileObjects(SOURCE));
            CompilationUnitTree unit = task.parse().iterator().next();
            task.analyze();
            Rules rules = new Rules(Trees.instance(task), unit);
            rules.scan(unit, null);
            rules.end();
        }
        textIsAscii();
        CHECK.end();
    }

    private static void textIsAscii() throws IOException {
        byte[] text = Files.readAllBytes(SOURCE);
        int outside = 0;
        for (byte b : text) {
            outside += b < 1 ? 1 : 0;
        }
        CHECK.same("rule 4: signs of the text that are not 1 to 127", 0, outside);
    }

    private static final class Rules extends TreePathScanner<Void, Void> {
        private final Trees trees;
        private final CompilationUnitTree unit;
        private final SourcePositions positions;
        /** For each method the methods and constructors that it calls, the library's too. */
        private final Map<String, Set<String>> calls = new TreeMap<>();
        private final Map<String, Integer> depths = new TreeMap<>();
        private int classes;

        Rules(Trees trees, CompilationUnitTree unit) {
            this.trees = trees;
            this.unit = unit;
            this.positions = trees.getSourcePositions();
        }

        void end() {
            allows("1: has no package", unit, unit.getPackage() == null);
            allows("1: is one class", unit, unit.getTypeDecls().size() == 1);
            CHECK.same("rule 11: more than " + MOST_CLASSES + " classes", 0, classes > MOST_CLASSES ? 1 : 0);
            for (String method : calls.keySet()) {
                int depth = depth(method, new TreeSet<>());
                CHECK.same("rule 11: " + method + " calls deeper than " + MOST_DEPTH, 0, depth > MOST_DEPTH ? 1 : 0);
            }
        }

        private void allows(String rule, Tree tree, boolean isAllowed) {
            long line = unit.getLineMap().getLineNumber(positions.getStartPosition(unit, tree));
            CHECK.same("rule " + rule + ", line " + line, "yes", isAllowed ? "yes" : "no");
        }

        // ---- what is there

        @Override
        public Void visitClass(ClassTree tree, Void v) {
            classes++;
            TypeElement type = (TypeElement) element(tree);
            boolean isInside = type.getEnclosingElement().getKind() == ElementKind.CLASS;
            if (isInside) {
                allows("1: a class inside is static", tree, type.getModifiers().contains(Modifier.STATIC));
            }
            allows("2: a class is no local one", tree,
                    isInside || type.getEnclosingElement().getKind() == ElementKind.PACKAGE);
            int fields = 0;
            for (Tree member : tree.getMembers()) {
                allows("5: there is no block of initialisers", member, !(member instanceof BlockTree));
                if (member instanceof VariableTree) {
                    fields += isConstant((VariableElement) trees.getElement(path(member))) ? 0 : 1;
                }
            }
            allows("11: a class has few fields", tree, fields <= MOST_FIELDS);
            return super.visitClass(tree, v);
        }

        @Override
        public Void visitMethod(MethodTree tree, Void v) {
            ExecutableElement method = (ExecutableElement) element(tree);
            calls.putIfAbsent(named(method), new TreeSet<>());
            allows("11: few parameters", tree, tree.getParameters().size() <= MOST_PARAMETERS);
            allows("11: a method is short", tree, lines(tree) <= MOST_LINES);
            allows("6: no method of Object", tree, !OBJECT_METHODS.contains(method.getSimpleName().toString()));
            if (tree.getReturnType() != null) {
                allows("3: what a method answers", tree, isType(method.getReturnType()));
            }
            return super.visitMethod(tree, v);
        }

        @Override
        public Void visitVariable(VariableTree tree, Void v) {
            VariableElement variable = (VariableElement) element(tree);
            allows("3: the type of " + tree.getName(), tree, isType(variable.asType()));
            if (variable.getModifiers().contains(Modifier.STATIC)) {
                allows("5: a static field is a constant", tree, isConstant(variable));
            }
            return super.visitVariable(tree, v);
        }

        private static boolean isConstant(VariableElement variable) {
            return variable.getModifiers().contains(Modifier.STATIC) && variable.getConstantValue() != null;
        }

        private boolean isType(TypeMirror type) {
            if (type.getKind() == TypeKind.ARRAY) {
                TypeMirror part = ((ArrayType) type).getComponentType();
                return part.getKind().isPrimitive() || isOwn(part);
            }
            return type.getKind().isPrimitive() || type.getKind() == TypeKind.VOID
                    || type.toString().equals("java.lang.String") || isOwn(type);
        }

        private static boolean isOwn(TypeMirror type) {
            return type.toString().startsWith("SignReforms");
        }

        private long lines(MethodTree tree) {
            return unit.getLineMap().getLineNumber(positions.getEndPosition(unit, tree))
                    - unit.getLineMap().getLineNumber(positions.getStartPosition(unit, tree)) + 1;
        }

        // ---- calls and objects

        @Override
        public Void visitMethodInvocation(MethodInvocationTree tree, Void v) {
            ExecutableElement method = (ExecutableElement) element(tree);
            String name = named(method);
            called(name);
            if (!isOwn(method.getEnclosingElement().asType())) {
                boolean isSuper = name.equals("java.lang.Object.<init>()");
                allows("4: the call " + name, tree, isSuper || LIBRARY.contains(name));
                if (name.startsWith("java.lang.System.arraycopy")) {
                    allows("4: arrays of numbers are copied", tree,
                            isNumbers(tree.getArguments().get(0)) && isNumbers(tree.getArguments().get(2)));
                }
            }
            return super.visitMethodInvocation(tree, v);
        }

        private boolean isNumbers(ExpressionTree tree) {
            return trees.getTypeMirror(path(tree)).toString().equals("int[]");
        }

        @Override
        public Void visitNewClass(NewClassTree tree, Void v) {
            ExecutableElement made = (ExecutableElement) element(tree);
            String type = made.getEnclosingElement().toString();
            allows("2: no anonymous class", tree, tree.getClassBody() == null);
            if (getCurrentPath().getParentPath().getLeaf() instanceof ThrowTree) {
                allows("6: the exception " + type, tree, EXCEPTIONS.contains(type));
                allows("6: an exception has a written text", tree, tree.getArguments().size() == 1
                        && tree.getArguments().get(0) instanceof LiteralTree);
            } else {
                allows("4: the object " + type, tree, isOwn(made.getEnclosingElement().asType()));
                allows("12: objects are made with the program", tree, isMadeWithTheProgram());
                called(named(made));
            }
            return super.visitNewClass(tree, v);
        }

        @Override
        public Void visitNewArray(NewArrayTree tree, Void v) {
            allows("12: rows are made with the program", tree, isMadeWithTheProgram());
            return super.visitNewArray(tree, v);
        }

        /** In a constructor, or in a field's initialiser. */
        private boolean isMadeWithTheProgram() {
            MethodTree method = enclosingMethod();
            return method == null || method.getReturnType() == null;
        }

        private void called(String name) {
            MethodTree method = enclosingMethod();
            if (method != null) {
                calls.computeIfAbsent(named((ExecutableElement) trees.getElement(path(method))), m -> new TreeSet<>())
                        .add(name);
            }
        }

        /** Calls that stand open at once below a method, with it; 1000 if it calls itself. */
        private int depth(String method, Set<String> open) {
            if (!open.add(method)) {
                return 1000;
            }
            int deepest = depths.getOrDefault(method, 0);
            if (deepest == 0) {
                for (String other : calls.getOrDefault(method, Set.of())) {
                    deepest = Math.max(deepest, depth(other, open));
                }
                deepest++;
                depths.put(method, deepest);
            }
            open.remove(method);
            return deepest;
        }

        // ---- statements

        @Override
        public Void visitThrow(ThrowTree tree, Void v) {
            allows("6: what is thrown is new", tree, tree.getExpression() instanceof NewClassTree);
            allows("6: no throw in a constructor", tree, enclosingMethod().getReturnType() != null);
            return super.visitThrow(tree, v);
        }

        @Override
        public Void visitTry(TryTree tree, Void v) {
            allows("6: no try", tree, false);
            return super.visitTry(tree, v);
        }

        @Override
        public Void visitSynchronized(SynchronizedTree tree, Void v) {
            allows("6: no synchronized", tree, false);
            return super.visitSynchronized(tree, v);
        }

        @Override
        public Void visitAssert(AssertTree tree, Void v) {
            allows("6: no assert", tree, false);
            return super.visitAssert(tree, v);
        }

        @Override
        public Void visitLambdaExpression(LambdaExpressionTree tree, Void v) {
            allows("2: no lambda", tree, false);
            return super.visitLambdaExpression(tree, v);
        }

        @Override
        public Void visitMemberReference(MemberReferenceTree tree, Void v) {
            allows("2: no method reference", tree, false);
            return super.visitMemberReference(tree, v);
        }

        @Override
        public Void visitWhileLoop(WhileLoopTree tree, Void v) {
            allows("9: no while", tree, false);
            return super.visitWhileLoop(tree, v);
        }

        @Override
        public Void visitDoWhileLoop(DoWhileLoopTree tree, Void v) {
            allows("9: no do", tree, false);
            return super.visitDoWhileLoop(tree, v);
        }

        @Override
        public Void visitEnhancedForLoop(EnhancedForLoopTree tree, Void v) {
            allows("9: for over an array", tree,
                    trees.getTypeMirror(path(tree.getExpression())).getKind() == TypeKind.ARRAY);
            return super.visitEnhancedForLoop(tree, v);
        }

        /** A counter goes up by one, below a bound, and nothing else in the loop is put into it. */
        @Override
        public Void visitForLoop(ForLoopTree tree, Void v) {
            boolean isCounted = tree.getInitializer().size() == 1 && tree.getUpdate().size() == 1
                    && tree.getInitializer().get(0) instanceof VariableTree;
            if (isCounted) {
                String counter = ((VariableTree) tree.getInitializer().get(0)).getName().toString();
                isCounted = tree.getUpdate().get(0).toString().replace(";", "").equals(counter + "++")
                        && String.valueOf(tree.getCondition()).matches("\\(*" + counter + " <=? .*")
                        && !String.valueOf(tree.getCondition()).contains("||")
                        && !isPutInto(counter, tree.getStatement());
            }
            allows("9: a loop counts to a bound", tree, isCounted);
            return super.visitForLoop(tree, v);
        }

        private static boolean isPutInto(String counter, Tree body) {
            Set<String> put = new TreeSet<>();
            new TreeScanner<Void, Void>() {
                @Override
                public Void visitAssignment(AssignmentTree tree, Void v) {
                    put.add(tree.getVariable().toString());
                    return super.visitAssignment(tree, v);
                }

                @Override
                public Void visitUnary(UnaryTree tree, Void v) {
                    boolean changes = tree.getKind() != Tree.Kind.UNARY_MINUS
                            && tree.getKind() != Tree.Kind.LOGICAL_COMPLEMENT;
                    if (changes) {
                        put.add(tree.getExpression().toString());
                    }
                    return super.visitUnary(tree, v);
                }

                @Override
                public Void visitCompoundAssignment(CompoundAssignmentTree tree, Void v) {
                    put.add(tree.getVariable().toString());
                    return super.visitCompoundAssignment(tree, v);
                }
            }.scan(body, null);
            return put.contains(counter);
        }

        @Override
        public Void visitBinary(BinaryTree tree, Void v) {
            boolean hasText = isText(tree.getLeftOperand()) || isText(tree.getRightOperand());
            allows("10: texts are neither joined by + nor compared by ==", tree, !hasText);
            return super.visitBinary(tree, v);
        }

        private boolean isText(ExpressionTree tree) {
            return trees.getTypeMirror(path(tree)).toString().equals("java.lang.String");
        }

        @Override
        public Void visitTypeCast(TypeCastTree tree, Void v) {
            allows("6: casts between numbers alone", tree,
                    trees.getTypeMirror(path(tree.getType())).getKind().isPrimitive());
            return super.visitTypeCast(tree, v);
        }

        // ---- names

        private Element element(Tree tree) {
            return trees.getElement(path(tree));
        }

        private TreePath path(Tree tree) {
            return TreePath.getPath(unit, tree);
        }

        private MethodTree enclosingMethod() {
            for (TreePath path = getCurrentPath(); path != null; path = path.getParentPath()) {
                if (path.getLeaf() instanceof MethodTree) {
                    return (MethodTree) path.getLeaf();
                }
            }
            return null;
        }

        private static String named(ExecutableElement method) {
            StringBuilder parameters = new StringBuilder();
            for (VariableElement parameter : method.getParameters()) {
                parameters.append(parameters.length() == 0 ? "" : ",").append(parameter.asType());
            }
            return method.getEnclosingElement() + "." + method.getSimpleName() + "(" + parameters + ")";
        }
    }
}
