import com.sun.source.tree.BinaryTree;
import com.sun.source.tree.BlockTree;
import com.sun.source.tree.ClassTree;
import com.sun.source.tree.CompilationUnitTree;
import com.sun.source.tree.CompoundAssignmentTree;
import com.sun.source.tree.ExpressionTree;
import com.sun.source.tree.MethodInvocationTree;
import com.sun.source.tree.MethodTree;
import com.sun.source.tree.NewArrayTree;
import com.sun.source.tree.NewClassTree;
import com.sun.source.tree.ThrowTree;
import com.sun.source.tree.Tree;
import com.sun.source.tree.VariableTree;
import com.sun.source.util.JavacTask;
import com.sun.source.util.SourcePositions;
import com.sun.source.util.TreePathScanner;
import com.sun.source.util.Trees;
import java.io.File;
import java.util.HashMap;
import java.util.HashSet;
import java.util.List;
import java.util.Map;
import java.util.Set;
import java.util.TreeSet;
import javax.lang.model.element.Element;
import javax.lang.model.element.ExecutableElement;
import javax.lang.model.element.Modifier;
import javax.lang.model.element.TypeElement;
import javax.tools.JavaCompiler;
import javax.tools.StandardJavaFileManager;
import javax.tools.ToolProvider;

/** The class keeps to the rules of LANGUAGE.md that can be read off its source. */
public final class LanguageTest {
    private static final String SOURCE = "src/main/java/BandPress.java";
    private static final int MOST_PARAMETERS = 7;
    private static final int MOST_METHOD_LINES = 60;
    private static final int MOST_CLASSES = 12;
    private static final int MOST_FIELDS = 20;
    private static final int MOST_DEPTH = 8;

    /** What the class uses of what rule 4 leaves; arrays of booleans are none of numbers. */
    private static final Set<String> LIBRARY = Set.of(
        "java.lang.String.indexOf(int)",
        "java.lang.Long.bitCount(long)",
        "java.lang.Math.max(int,int)", "java.lang.Math.max(long,long)",
        "java.lang.Math.min(int,int)", "java.lang.Math.min(long,long)",
        "java.lang.Math.abs(int)", "java.lang.Math.abs(long)",
        "java.lang.Math.floorDiv(int,int)", "java.lang.Math.floorDiv(long,long)",
        "java.lang.System.arraycopy(java.lang.Object,int,java.lang.Object,int,int)",
        "java.util.Arrays.fill(int[],int)", "java.util.Arrays.fill(long[],long)");

    private static final Set<String> EXCEPTIONS = Set.of(
        "IllegalStateException", "IllegalArgumentException", "NoSuchElementException");

    private static final Set<String> TYPES = Set.of(
        "int", "long", "char", "boolean", "String", "int[]", "long[]", "char[]", "boolean[]");

    private static final Set<String> CONSTANT_TYPES = Set.of("int", "long", "boolean", "char", "String", "int[]");

    private static final Set<Tree.Kind> REFUSED = Set.of(
        Tree.Kind.LAMBDA_EXPRESSION, Tree.Kind.MEMBER_REFERENCE, Tree.Kind.SYNCHRONIZED, Tree.Kind.ASSERT,
        Tree.Kind.TRY, Tree.Kind.ANNOTATION, Tree.Kind.FLOAT_LITERAL, Tree.Kind.DOUBLE_LITERAL);

    public static void main(String[] args) throws Exception {
        JavaCompiler compiler = ToolProvider.getSystemJavaCompiler();
        try (StandardJavaFileManager files = compiler.getStandardFileManager(null, null, null)) {
            JavacTask task = (JavacTask) compiler.getTask(null, files, null, List.of("-proc:none"), null,
                files.getJavaFileObjects(new File(SOURCE)));
            CompilationUnitTree unit = task.parse().iterator().next();
            task.analyze();
            Check.due("rule 1: top classes of the file", unit.getTypeDecls().size(), 1);
            Check.due("whether there is a package line", unit.getPackage() != null, false);
            Reader reader = new Reader(unit, Trees.instance(task));
            reader.scan(unit, null);
            reader.end();
        }
        Check.end();
    }

    private static void holds(String what, boolean does) {
        Check.due(what, does, true);
    }

    /** Walks through the source, and gathers who calls whom. */
    private static final class Reader extends TreePathScanner<Void, Void> {
        private final CompilationUnitTree unit;
        private final Trees trees;
        private final SourcePositions positions;
        private final Map<String, Set<String>> calls = new HashMap<>();
        private final Set<String> own = new TreeSet<>();
        private MethodTree method;
        private String caller = "";
        private int classes;

        Reader(CompilationUnitTree unit, Trees trees) {
            this.unit = unit;
            this.trees = trees;
            this.positions = trees.getSourcePositions();
        }

        @Override
        public Void scan(Tree tree, Void nothing) {
            if (tree != null) {
                holds("rules 2, 3, 6: no " + tree.getKind() + " in line " + line(tree), !REFUSED.contains(tree.getKind()));
            }
            return super.scan(tree, nothing);
        }

        @Override
        public Void visitClass(ClassTree tree, Void nothing) {
            classes++;
            holds("rule 2: class " + tree.getSimpleName() + " is in no method", method == null);
            int fields = 0;
            for (Tree member : tree.getMembers()) {
                if (member instanceof VariableTree) {
                    fields += readField((VariableTree) member) ? 1 : 0;
                }
                holds("rule 5: no block of " + tree.getSimpleName() + " in line " + line(member), !(member instanceof BlockTree));
            }
            holds("rule 11: fields of " + tree.getSimpleName() + ": " + fields, fields <= MOST_FIELDS);
            return super.visitClass(tree, nothing);
        }

        /** Whether it is a field of an object. */
        private boolean readField(VariableTree field) {
            Set<Modifier> modifiers = field.getModifiers().getFlags();
            if (!modifiers.contains(Modifier.STATIC)) {
                return true;
            }
            holds("rule 5: " + field.getName() + " is final", modifiers.contains(Modifier.FINAL));
            holds("rule 5: " + field.getName() + " is a constant", CONSTANT_TYPES.contains(field.getType().toString()));
            return false;
        }

        @Override
        public Void visitVariable(VariableTree tree, Void nothing) {
            String type = String.valueOf(tree.getType());
            Element element = trees.getElement(getCurrentPath());
            boolean ownClass = element != null && element.asType().toString().startsWith("BandPress");
            holds("rule 3: the type " + type + " of " + tree.getName(), TYPES.contains(type) || ownClass);
            return super.visitVariable(tree, nothing);
        }

        @Override
        public Void visitMethod(MethodTree tree, Void nothing) {
            String name = nameOf(trees.getElement(getCurrentPath()));
            holds("rule 11: parameters of " + name, tree.getParameters().size() <= MOST_PARAMETERS);
            if (tree.getBody() != null) {
                long last = unit.getLineMap().getLineNumber(positions.getEndPosition(unit, tree));
                holds("rule 11: lines of " + name, last - line(tree) < MOST_METHOD_LINES);
            }
            own.add(name);
            method = tree;
            caller = name;
            super.visitMethod(tree, nothing);
            method = null;
            caller = "";
            return null;
        }

        @Override
        public Void visitMethodInvocation(MethodInvocationTree tree, Void nothing) {
            String callee = nameOf(trees.getElement(getCurrentPath()));
            if (callee.startsWith("BandPress")) {
                calls.computeIfAbsent(caller, k -> new TreeSet<>()).add(callee);
            } else if (!callee.equals("java.lang.Object.<init>()")) {
                holds("rule 4: the call of " + callee + " in line " + line(tree), LIBRARY.contains(callee));
                readArrays(callee, tree.getArguments());
            }
            return super.visitMethodInvocation(tree, nothing);
        }

        private void readArrays(String callee, List<? extends ExpressionTree> arguments) {
            if (callee.contains("arraycopy")) {
                String type = typeOf(arguments.get(0));
                holds("rule 4: the copy of " + type, type.equals("int[]") || type.equals("long[]"));
            }
        }

        @Override
        public Void visitNewClass(NewClassTree tree, Void nothing) {
            String name = tree.getIdentifier().toString();
            holds("rule 2: no body behind new " + name, tree.getClassBody() == null);
            boolean thrown = getCurrentPath().getParentPath().getLeaf() instanceof ThrowTree;
            holds("rule 12: " + caller + " makes a " + name, method == null || thrown && EXCEPTIONS.contains(name));
            return super.visitNewClass(tree, nothing);
        }

        @Override
        public Void visitNewArray(NewArrayTree tree, Void nothing) {
            holds("rule 12: " + caller + " makes an array", method == null);
            return super.visitNewArray(tree, nothing);
        }

        @Override
        public Void visitThrow(ThrowTree tree, Void nothing) {
            holds("rule 6: a throw in " + caller, tree.getExpression() instanceof NewClassTree && !caller.contains("<init>"));
            return super.visitThrow(tree, nothing);
        }

        @Override
        public Void visitBinary(BinaryTree tree, Void nothing) {
            holds("rule 10: no text is joined in line " + line(tree), !typeOf(tree).equals("java.lang.String"));
            return super.visitBinary(tree, nothing);
        }

        @Override
        public Void visitCompoundAssignment(CompoundAssignmentTree tree, Void nothing) {
            holds("rule 10: no text grows in line " + line(tree), !typeOf(tree).equals("java.lang.String"));
            return super.visitCompoundAssignment(tree, nothing);
        }

        void end() {
            holds("rule 11: classes: " + classes, classes <= MOST_CLASSES);
            for (String name : own) {
                int depth = depth(name, new HashSet<>());
                holds("rules 8, 11: calls from " + name + " go " + depth + " deep", depth <= MOST_DEPTH);
            }
        }

        /** A method that comes to itself again counts as too deep, as the class has no recursion. */
        private int depth(String name, Set<String> open) {
            if (!open.add(name)) {
                return MOST_DEPTH + 1;
            }
            int deepest = 0;
            for (String callee : calls.getOrDefault(name, Set.of())) {
                deepest = Math.max(deepest, depth(callee, open));
            }
            open.remove(name);
            return deepest + 1;
        }

        private long line(Tree tree) {
            long start = positions.getStartPosition(unit, tree);
            return start < 0 ? 0 : unit.getLineMap().getLineNumber(start);
        }

        private String typeOf(Tree tree) {
            return String.valueOf(trees.getTypeMirror(trees.getPath(unit, tree)));
        }

        private static String nameOf(Element element) {
            if (!(element instanceof ExecutableElement)) {
                return "";
            }
            TypeElement owner = (TypeElement) element.getEnclosingElement();
            String name = owner.getQualifiedName() + "." + element;
            return element.getSimpleName().contentEquals("<init>")
                ? owner.getQualifiedName() + ".<init>()" : name;
        }
    }
}
