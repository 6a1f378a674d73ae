import com.sun.source.tree.ArrayAccessTree;
import com.sun.source.tree.AssertTree;
import com.sun.source.tree.BinaryTree;
import com.sun.source.tree.ClassTree;
import com.sun.source.tree.CompilationUnitTree;
import com.sun.source.tree.CompoundAssignmentTree;
import com.sun.source.tree.DoWhileLoopTree;
import com.sun.source.tree.ForLoopTree;
import com.sun.source.tree.IdentifierTree;
import com.sun.source.tree.LambdaExpressionTree;
import com.sun.source.tree.LiteralTree;
import com.sun.source.tree.MemberReferenceTree;
import com.sun.source.tree.MemberSelectTree;
import com.sun.source.tree.MethodInvocationTree;
import com.sun.source.tree.MethodTree;
import com.sun.source.tree.NewArrayTree;
import com.sun.source.tree.NewClassTree;
import com.sun.source.tree.SynchronizedTree;
import com.sun.source.tree.ThrowTree;
import com.sun.source.tree.Tree;
import com.sun.source.tree.TryTree;
import com.sun.source.tree.TypeCastTree;
import com.sun.source.tree.VariableTree;
import com.sun.source.tree.WhileLoopTree;
import com.sun.source.util.JavacTask;
import com.sun.source.util.TreePathScanner;
import com.sun.source.util.Trees;
import java.lang.reflect.Constructor;
import java.lang.reflect.Field;
import java.lang.reflect.Method;
import java.lang.reflect.Modifier;
import java.nio.file.Path;
import java.util.Arrays;
import java.util.HashSet;
import java.util.List;
import java.util.Map;
import java.util.Set;
import java.util.TreeMap;
import java.util.TreeSet;
import java.util.regex.Pattern;
import javax.tools.JavaCompiler;
import javax.tools.StandardJavaFileManager;
import javax.tools.ToolProvider;

/** The document's face, and of ../shared/LANGUAGE.md what can be seen in the source. */
public final class LanguageTest {
    private static final Set<String> FACE = new TreeSet<>(Arrays.asList(
        "int part(int, int, int)", "int need(int, int)", "int casts(int, int, int)", "int cast(int, int, int)",
        "int warmth(int)", "int hours(int)", "int letGo(int)", "int stack(int, int)", "int move(int, int)",
        "int diggings(int, long)", "int load(int)", "int go()", "int lorry(int)", "int change(int, int, int, int)",
        "int told(int, int)", "int at(int, int)", "int bed(int, int)", "int count(int)"));

    public static void main(String[] args) throws Exception {
        face();
        source(Path.of(args[0]));
        Check.end("LanguageTest");
    }

    private static void face() {
        Check.holds("the class is public and final",
            Modifier.isPublic(StoneBeds.class.getModifiers()) && Modifier.isFinal(StoneBeds.class.getModifiers()));
        Set<String> open = new TreeSet<>();
        Set<String> closed = new TreeSet<>();
        for (Method m : StoneBeds.class.getDeclaredMethods()) {
            if (Modifier.isPublic(m.getModifiers()) && !Modifier.isStatic(m.getModifiers())) {
                List<String> types = Arrays.stream(m.getParameterTypes()).map(Class::getName).toList();
                open.add(m.getReturnType().getName() + " " + m.getName() + "(" + String.join(", ", types) + ")");
            } else {
                Check.holds(m.getName() + " is private", Modifier.isPrivate(m.getModifiers()));
                closed.add(m.getName());
            }
        }
        Check.holds("the methods are the document's: " + open, open.equals(FACE));
        for (String method : open) {
            String name = method.substring(4, method.indexOf('('));
            Check.holds("no private method is named " + name, !closed.contains(name));
        }
        Constructor<?>[] made = StoneBeds.class.getDeclaredConstructors();
        Check.holds("one public constructor without arguments",
            made.length == 1 && Modifier.isPublic(made[0].getModifiers()) && made[0].getParameterCount() == 0);
        Set<String> constants = new TreeSet<>();
        for (Field f : StoneBeds.class.getDeclaredFields()) {
            if (!Modifier.isPrivate(f.getModifiers())) {
                constants.add(Modifier.toString(f.getModifiers()) + " " + f.getName());
            }
        }
        Check.holds("the constants are the document's: " + constants, constants.equals(new TreeSet<>(Arrays.asList(
            "public static final BAD", "public static final NO", "public static final FULL", "public static final NONE"))));
        Check.due("BAD", StoneBeds.BAD, -1);
        Check.due("NO", StoneBeds.NO, -2);
        Check.due("FULL", StoneBeds.FULL, -3);
        Check.due("NONE", StoneBeds.NONE, -4);
    }

    private static void source(Path file) throws Exception {
        JavaCompiler compiler = ToolProvider.getSystemJavaCompiler();
        try (StandardJavaFileManager files = compiler.getStandardFileManager(null, null, null)) {
            JavacTask task = (JavacTask) compiler.getTask(null, files, null, null, null, files.getJavaFileObjects(file));
            for (CompilationUnitTree unit : task.parse()) {
                Check.holds("no package line", unit.getPackageName() == null);
                Check.holds("no import, as nothing of the library is needed but Math", unit.getImports().isEmpty());
                Rules rules = new Rules(Trees.instance(task), unit);
                rules.scan(unit, null);
                rules.names();
                rules.depths();
            }
        }
    }

    /** Stricter than the rules where the class needs less than they leave it: no library but this. */
    private static final Set<String> LIBRARY = Set.of("Math.max", "Math.min");
    private static final Set<String> NUMBERS = Set.of("int", "long", "boolean", "int[]", "long[]");

    private static final class Rules extends TreePathScanner<Void, Void> {
        private final Trees trees;
        private final CompilationUnitTree unit;
        private int classes;
        private final Set<String> ownClasses = new TreeSet<>();
        private final Set<String> namesWithCapitals = new TreeSet<>();
        private final Set<String> privateMethods = new TreeSet<>();
        private final Map<String, Set<String>> callsOf = new TreeMap<>();

        Rules(Trees trees, CompilationUnitTree unit) {
            this.trees = trees;
            this.unit = unit;
        }

        private long line(long position) {
            return unit.getLineMap().getLineNumber(position);
        }

        private void none(String what, Tree tree) {
            Check.holds("line " + line(trees.getSourcePositions().getStartPosition(unit, tree)) + ": no " + what, false);
        }

        /** All classes are known only when all has been read. */
        void names() {
            for (String name : namesWithCapitals) {
                Check.holds(name + " is a class of its own, or Math", ownClasses.contains(name) || name.equals("Math"));
            }
            for (String method : FACE) {
                String name = method.substring(4, method.indexOf('('));
                Check.holds("no private method anywhere is named " + name, !privateMethods.contains(name));
            }
        }

        /** Rules 8 and 11, methods of one name taken for one: what leads back to itself is counted once. */
        void depths() {
            for (String method : callsOf.keySet()) {
                Check.holds(method + " goes at most eight deep", depth(method, new HashSet<>()) <= 8);
            }
        }

        private int depth(String method, Set<String> open) {
            if (!callsOf.containsKey(method) || !open.add(method)) {
                return 0;
            }
            int deepest = 0;
            for (String called : callsOf.get(method)) {
                deepest = Math.max(deepest, depth(called, open));
            }
            open.remove(method);
            return 1 + deepest;
        }

        private boolean isType(Tree type) {
            String name = type == null ? "void" : type.toString();
            String bare = name.endsWith("[]") ? name.substring(0, name.length() - 2) : name;
            if (NUMBERS.contains(name) || name.equals("void")) {
                return true;
            }
            namesWithCapitals.add(bare);
            return !bare.endsWith("]") && Character.isUpperCase(bare.charAt(0));
        }

        /** Rule 7: what may be none is looked for here alone, and answered as null. */
        private static final Set<String> LOOKED_FOR = Set.of("partOf", "bedOf", "stackOf", "pileOf");

        private boolean isTested(String test) {
            MethodTree method = method();
            return method != null && Pattern.compile(test).matcher(method.toString()).find();
        }

        /** Rule 7: an index is looked at on both sides in the method that uses it. */
        @Override
        public Void visitArrayAccess(ArrayAccessTree tree, Void nothing) {
            String array = tree.getExpression().toString();
            String index = tree.getIndex().toString();
            String name = index.replaceFirst(" - 1$", "");
            Check.holds(tree + " is of a row told by its name", array.matches("\\w+"));
            Check.holds(tree + " takes a name for its index, or the one ahead of it", name.matches("[a-z]\\w*"));
            String less = name + " < " + array + "\\.length\\b";
            String beyond = name + " >= " + array + "\\.length\\b";
            Check.holds(tree + ", " + name + " is looked at on both sides",
                isTested("\\b" + name + " < 0 \\|\\| (" + name + " >= \\w+ \\|\\| )?" + beyond)
                    || isTested("\\b" + name + " >= 0 && " + less) || isTested("\\bint " + name + " = 0; " + less));
            Check.holds(tree + ", none ahead of the first is asked for", index.equals(name) || isTested("\\b" + name + " > 0 &&"));
            return super.visitArrayAccess(tree, nothing);
        }

        /** Rule 7: what may be none is looked at before it is used. */
        private void mayBeNone(VariableTree tree) {
            if (tree.getInitializer() == null) {
                return;
            }
            String given = tree.getInitializer().toString();
            boolean looked = LOOKED_FOR.stream().anyMatch(name -> given.contains(name + "("));
            Check.holds(tree.getName() + " is looked at against null",
                !looked || isTested("\\b" + tree.getName() + " (==|!=) null\\b"));
        }

        /** Rule 7: a divisor is a constant above 0, or it is looked at before it divides. */
        private void divides(Tree.Kind kind, Tree tree, Tree divisor) {
            if (Set.of(Tree.Kind.DIVIDE, Tree.Kind.REMAINDER, Tree.Kind.DIVIDE_ASSIGNMENT, Tree.Kind.REMAINDER_ASSIGNMENT).contains(kind)) {
                Check.holds(tree + " has a divisor that is looked at",
                    divisor.toString().matches("[A-Z][A-Z_]+|[1-9][0-9]*") || isTested("\\b" + divisor + " <= 0\\b"));
            }
        }

        @Override
        public Void visitBinary(BinaryTree tree, Void nothing) {
            divides(tree.getKind(), tree, tree.getRightOperand());
            return super.visitBinary(tree, nothing);
        }

        @Override
        public Void visitCompoundAssignment(CompoundAssignmentTree tree, Void nothing) {
            divides(tree.getKind(), tree, tree.getExpression());
            return super.visitCompoundAssignment(tree, nothing);
        }

        /** Rule 7: a cast between numbers never throws, and no other is needed. */
        @Override
        public Void visitTypeCast(TypeCastTree tree, Void nothing) {
            Check.holds(tree + " is a cast to a number", NUMBERS.contains(tree.getType().toString()));
            return super.visitTypeCast(tree, nothing);
        }

        private MethodTree method() {
            for (var path = getCurrentPath(); path != null; path = path.getParentPath()) {
                if (path.getLeaf() instanceof MethodTree m) {
                    return m;
                }
            }
            return null;
        }

        private void hasAnEnd(Tree loop, Tree condition) {
            if (condition == null || condition.toString().equals("(true)") || condition.toString().equals("true")) {
                none("loop without an end", loop);
            }
        }

        @Override
        public Void visitForLoop(ForLoopTree tree, Void nothing) {
            hasAnEnd(tree, tree.getCondition());
            return super.visitForLoop(tree, nothing);
        }

        @Override
        public Void visitWhileLoop(WhileLoopTree tree, Void nothing) {
            hasAnEnd(tree, tree.getCondition());
            return super.visitWhileLoop(tree, nothing);
        }

        @Override
        public Void visitDoWhileLoop(DoWhileLoopTree tree, Void nothing) {
            hasAnEnd(tree, tree.getCondition());
            return super.visitDoWhileLoop(tree, nothing);
        }

        @Override
        public Void visitIdentifier(IdentifierTree tree, Void nothing) {
            String name = tree.getName().toString();
            if (Character.isUpperCase(name.charAt(0)) && !name.equals(name.toUpperCase())) {
                namesWithCapitals.add(name);
            }
            return super.visitIdentifier(tree, nothing);
        }

        @Override
        public Void visitMemberSelect(MemberSelectTree tree, Void nothing) {
            Check.holds(tree + " is of what has a name, so that it can be looked at",
                !(tree.getExpression() instanceof MethodInvocationTree));
            if (tree.getExpression().toString().equals("Math")) {
                Check.holds(tree + " is of the library that is needed", LIBRARY.contains(tree.toString()));
            }
            return super.visitMemberSelect(tree, nothing);
        }

        @Override
        public Void visitMethodInvocation(MethodInvocationTree tree, Void nothing) {
            MethodTree from = method();
            String called = tree.getMethodSelect().toString();
            if (from != null) {
                callsOf.get(from.getName().toString()).add(called.substring(called.lastIndexOf('.') + 1));
            }
            return super.visitMethodInvocation(tree, nothing);
        }

        @Override
        public Void visitLiteral(LiteralTree tree, Void nothing) {
            if (tree.getValue() instanceof String || tree.getValue() instanceof Double || tree.getValue() instanceof Float) {
                none("text, and no fraction, " + tree, tree);
            }
            return super.visitLiteral(tree, nothing);
        }

        @Override
        public Void visitClass(ClassTree tree, Void nothing) {
            classes++;
            ownClasses.add(tree.getSimpleName().toString());
            Check.holds(tree.getSimpleName() + " is in no method", method() == null);
            Check.holds("some twelve classes at most", classes <= 12);
            boolean inside = classes > 1;
            Check.holds(tree.getSimpleName() + " is static, if it is inside",
                !inside || tree.getModifiers().getFlags().contains(javax.lang.model.element.Modifier.STATIC));
            long fields = tree.getMembers().stream()
                .filter(m -> m instanceof VariableTree v && !v.getModifiers().getFlags().contains(javax.lang.model.element.Modifier.STATIC))
                .count();
            Check.holds(tree.getSimpleName() + " has some twenty fields at most", fields <= 20);
            return super.visitClass(tree, nothing);
        }

        @Override
        public Void visitMethod(MethodTree tree, Void nothing) {
            Check.holds(tree.getName() + " takes seven parameters at most", tree.getParameters().size() <= 7);
            long first = line(trees.getSourcePositions().getStartPosition(unit, tree));
            long last = line(trees.getSourcePositions().getEndPosition(unit, tree));
            Check.holds(tree.getName() + " is short", last - first < 60);
            String name = tree.getName().toString();
            Check.holds(name + " is none of Object's", !Set.of("equals", "hashCode", "toString", "finalize", "clone").contains(name));
            Check.holds(name + " answers a type that is left", isType(tree.getReturnType()));
            if (tree.getModifiers().getFlags().contains(javax.lang.model.element.Modifier.PRIVATE)) {
                privateMethods.add(name);
            }
            callsOf.computeIfAbsent(name, none -> new TreeSet<>());
            return super.visitMethod(tree, nothing);
        }

        @Override
        public Void visitVariable(VariableTree tree, Void nothing) {
            var flags = tree.getModifiers().getFlags();
            boolean isStatic = flags.contains(javax.lang.model.element.Modifier.STATIC);
            Check.holds(tree.getName() + " is a final int, if it is static",
                !isStatic || flags.contains(javax.lang.model.element.Modifier.FINAL) && tree.getType().toString().equals("int"));
            Check.holds(tree.getName() + " is of a type that is left", isType(tree.getType()));
            mayBeNone(tree);
            return super.visitVariable(tree, nothing);
        }

        /** More than the rule asks: all that a StoneBeds needs is made with it. */
        private void madeInAConstructor(Tree tree) {
            for (var path = getCurrentPath(); path != null; path = path.getParentPath()) {
                if (path.getLeaf() instanceof MethodTree m && !m.getName().contentEquals("<init>")) {
                    none("object made outside a constructor", tree);
                }
            }
        }

        @Override
        public Void visitNewClass(NewClassTree tree, Void nothing) {
            Check.holds("no class without a name", tree.getClassBody() == null);
            madeInAConstructor(tree);
            return super.visitNewClass(tree, nothing);
        }

        @Override
        public Void visitNewArray(NewArrayTree tree, Void nothing) {
            madeInAConstructor(tree);
            return super.visitNewArray(tree, nothing);
        }

        @Override
        public Void visitTry(TryTree tree, Void nothing) {
            none("try", tree);
            return super.visitTry(tree, nothing);
        }

        @Override
        public Void visitThrow(ThrowTree tree, Void nothing) {
            none("throw", tree);
            return super.visitThrow(tree, nothing);
        }

        @Override
        public Void visitSynchronized(SynchronizedTree tree, Void nothing) {
            none("synchronized", tree);
            return super.visitSynchronized(tree, nothing);
        }

        @Override
        public Void visitAssert(AssertTree tree, Void nothing) {
            none("assert", tree);
            return super.visitAssert(tree, nothing);
        }

        @Override
        public Void visitLambdaExpression(LambdaExpressionTree tree, Void nothing) {
            none("lambda", tree);
            return super.visitLambdaExpression(tree, nothing);
        }

        @Override
        public Void visitMemberReference(MemberReferenceTree tree, Void nothing) {
            none("method reference", tree);
            return super.visitMemberReference(tree, nothing);
        }
    }
}
