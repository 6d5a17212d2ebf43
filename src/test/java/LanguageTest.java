import com.sun.source.tree.AssertTree;
import com.sun.source.tree.BinaryTree;
import com.sun.source.tree.CatchTree;
import com.sun.source.tree.ClassTree;
import com.sun.source.tree.CompilationUnitTree;
import com.sun.source.tree.IdentifierTree;
import com.sun.source.tree.ImportTree;
import com.sun.source.tree.LambdaExpressionTree;
import com.sun.source.tree.LiteralTree;
import com.sun.source.tree.MemberReferenceTree;
import com.sun.source.tree.MemberSelectTree;
import com.sun.source.tree.MethodInvocationTree;
import com.sun.source.tree.MethodTree;
import com.sun.source.tree.NewClassTree;
import com.sun.source.tree.SynchronizedTree;
import com.sun.source.tree.ThrowTree;
import com.sun.source.tree.Tree;
import com.sun.source.tree.TryTree;
import com.sun.source.tree.VariableTree;
import com.sun.source.util.JavacTask;
import com.sun.source.util.SourcePositions;
import com.sun.source.util.TreeScanner;
import com.sun.source.util.Trees;
import java.io.File;
import java.lang.reflect.Constructor;
import java.lang.reflect.Field;
import java.lang.reflect.Method;
import java.lang.reflect.Modifier;
import java.util.HashMap;
import java.util.HashSet;
import java.util.List;
import java.util.Map;
import java.util.Set;
import java.util.TreeMap;
import java.util.TreeSet;
import javax.tools.JavaCompiler;
import javax.tools.StandardJavaFileManager;
import javax.tools.ToolProvider;

/** The rules of LANGUAGE.md that can be seen: in the class by reflection, in its text by the compiler's tree, in its room. */
public final class LanguageTest {
    private static final String SOURCE = "src/main/java/SlidingRanks.java";
    private static final String FACE = "feed:1 end:1 text:0 fault:0 rule:1 reading:1 row:2 item:2 result:2 rank:3 shown:2 "
            + "middle:2 far:2 fars:1 above:2 most:1 add:1 miss:0 set:2 lose:1 drop:1 width:1 need:1 part:2 choose:1 form:1 "
            + "drift:2 keep:1 back:1 sheet:3 lay:3 read:4 torn:0 count:1";
    private static final int MOST_LINES = 60;
    private static final int MOST_DEPTH = 8;
    private static final int MOST_PARAMETERS = 7;
    private static final int MOST_CLASSES = 12;
    private static final int MOST_FIELDS = 20;
    private static final Set<String> LIBRARY = Set.of("Math.max", "Math.min", "Math.abs", "System.arraycopy");

    public static void main(String[] args) throws Exception {
        checkFace();
        checkConstants();
        checkText();
        checkRoom();
        Due.close();
    }

    private static void checkFace() {
        Set<String> due = new TreeSet<>(List.of(FACE.split(" ")));
        Set<String> seen = new TreeSet<>();
        for (Method method : SlidingRanks.class.getDeclaredMethods()) {
            if (!Modifier.isPrivate(method.getModifiers()) && !method.isSynthetic()) {
                seen.add(method.getName() + ":" + method.getParameterCount());
                Due.holds("1: public " + method.getName(), method.getModifiers() == Modifier.PUBLIC);
                Due.holds("1: int " + method.getName(), method.getReturnType() == int.class);
                for (Class<?> type : method.getParameterTypes()) {
                    Due.holds("1: of ints, " + method.getName(), type == int.class);
                }
            }
        }
        Due.holds("1: the methods are " + seen, seen.equals(due));
        Constructor<?>[] constructors = SlidingRanks.class.getDeclaredConstructors();
        Due.is("1: constructors", constructors.length, 1);
        Due.is("1: a public constructor", constructors[0].getModifiers(), Modifier.PUBLIC);
        Due.is("1: of no parameters", constructors[0].getParameterCount(), 0);
        Due.is("1: public and final", SlidingRanks.class.getModifiers(), Modifier.PUBLIC | Modifier.FINAL);
        for (Class<?> inside : SlidingRanks.class.getDeclaredClasses()) {
            int modifiers = inside.getModifiers();
            Due.holds("1: static, not public " + inside, Modifier.isStatic(modifiers)
                    && !Modifier.isPublic(modifiers) && !Modifier.isProtected(modifiers));
        }
    }

    private static void checkConstants() throws IllegalAccessException {
        Map<String, Integer> due = Map.of("BAD", -1, "STATE", -2, "FULL", -3, "NONE", -4, "NOTHING", 100000000);
        Map<String, Integer> seen = new HashMap<>();
        for (Field field : SlidingRanks.class.getDeclaredFields()) {
            if (!Modifier.isPrivate(field.getModifiers())) {
                seen.put(field.getName(), field.getInt(null));
                Due.is("1: " + field.getName() + " is a constant", field.getModifiers(),
                        Modifier.PUBLIC | Modifier.STATIC | Modifier.FINAL);
            }
        }
        Due.holds("1: the constants are " + seen, seen.equals(due));
    }

    private static void checkText() throws Exception {
        JavaCompiler compiler = ToolProvider.getSystemJavaCompiler();
        try (StandardJavaFileManager files = compiler.getStandardFileManager(null, null, null)) {
            JavacTask task = (JavacTask) compiler.getTask(null, files, null, List.of("-proc:none"), null,
                    files.getJavaFileObjects(new File(SOURCE)));
            for (CompilationUnitTree unit : task.parse()) {
                task.analyze();
                Rules rules = new Rules(unit, Trees.instance(task));
                rules.scan(unit, null);
                rules.close();
            }
        }
    }

    /** No call makes anything, so that a run's room is what its objects take when they are made. */
    private static void checkRoom() {
        com.sun.management.ThreadMXBean room =
                (com.sun.management.ThreadMXBean) java.lang.management.ManagementFactory.getThreadMXBean();
        long thread = Thread.currentThread().getId();
        SlidingRanks x = new SlidingRanks();
        byte[] told = "width 9;need 2;part 1 3;rule line;form sign;put 1.5 -2 miss 7;".getBytes();
        x.sheet(0, 2, 40);
        long before = 0;
        for (int round = 0; round < 3; round++) {
            before = room.getThreadAllocatedBytes(thread);
            for (byte c : told) {
                x.feed(c);
            }
            x.text();
            x.drift(5, 48);
            x.read(0, 2, 0, 40);
            for (int i = -2; i < 100; i++) {
                useAll(x, i);
            }
        }
        long made = room.getThreadAllocatedBytes(thread) - before;
        Due.holds("12: the calls made " + made + " bytes", made < 1000);
    }

    private static void useAll(SlidingRanks x, int i) {
        x.rule(i);
        x.row(i, 1);
        x.item(i, 1);
        x.result(i, 2);
        x.rank(i, 100, 0);
        x.shown(i, 1);
        x.middle(i, 1);
        x.far(i, 1);
        x.fars(i);
        x.above(i, 3);
        x.most(1);
        x.set(i, 3);
        x.lose(i);
        x.keep(i);
        x.back(i);
        x.lay(0, i, i);
        x.sheet(1, 1, i);
        x.read(0, 2, i, 1);
        x.drop(2);
        x.drift(i, 1);
        x.count(3);
        x.count(i);
        x.torn();
        x.fault();
        x.add(i);
        x.miss();
        x.end(i);
        x.width(i);
        x.need(i);
        x.part(1, i);
        x.choose(i);
        x.form(i);
        x.reading(i);
    }

    private static final class Rules extends TreeScanner<Void, Void> {
        private final CompilationUnitTree unit;
        private final SourcePositions places;
        private final Set<String> publicMethods = new HashSet<>();
        private final Set<String> otherMethods = new HashSet<>();
        private final Map<String, Set<String>> calls = new TreeMap<>();
        private String method = "";
        private int classes = 0;

        Rules(CompilationUnitTree unit, Trees trees) {
            this.unit = unit;
            this.places = trees.getSourcePositions();
        }

        private long line(Tree tree) {
            return unit.getLineMap().getLineNumber(places.getStartPosition(unit, tree));
        }

        private void refuse(String rule, Tree tree) {
            Due.holds(rule + ", line " + line(tree), false);
        }

        void close() {
            Due.is("1: no package", unit.getPackageName() == null ? 0 : 1, 0);
            Due.is("11: classes", Math.max(classes, MOST_CLASSES), MOST_CLASSES);
            publicMethods.remove("<init>");
            for (String name : otherMethods) {
                Due.holds("1: a method inside bears a public name: " + name, !publicMethods.contains(name));
            }
            for (String name : publicMethods) {
                int depth = depth(name, new HashSet<>());
                Due.holds("11: " + name + " goes " + depth + " deep", depth <= MOST_DEPTH);
            }
        }

        /** By name alone: where two classes have methods of one name, the deeper counts. */
        private int depth(String name, Set<String> open) {
            if (!open.add(name)) {
                Due.holds("8: " + name + " calls itself", false);
                return 0;
            }
            int deepest = 0;
            for (String called : calls.getOrDefault(name, Set.of())) {
                if (calls.containsKey(called)) {
                    deepest = Math.max(deepest, depth(called, open));
                }
            }
            open.remove(name);
            return deepest + 1;
        }

        @Override
        public Void visitClass(ClassTree tree, Void none) {
            classes++;
            int fields = 0;
            for (Tree member : tree.getMembers()) {
                if (member instanceof VariableTree field && !isStatic(field)) {
                    fields++;
                }
                Due.holds("5: no initialiser block, line " + line(tree), member.getKind() != Tree.Kind.BLOCK);
            }
            Due.holds("11: fields of " + tree.getSimpleName(), fields <= MOST_FIELDS);
            return super.visitClass(tree, none);
        }

        private static boolean isStatic(VariableTree field) {
            return field.getModifiers().getFlags().contains(javax.lang.model.element.Modifier.STATIC);
        }

        @Override
        public Void visitVariable(VariableTree tree, Void none) {
            if (isStatic(tree)) {
                Due.holds("5: a static field is final, line " + line(tree),
                        tree.getModifiers().getFlags().contains(javax.lang.model.element.Modifier.FINAL));
            }
            return super.visitVariable(tree, none);
        }

        @Override
        public Void visitMethod(MethodTree tree, Void none) {
            String name = tree.getName().toString();
            if (tree.getModifiers().getFlags().contains(javax.lang.model.element.Modifier.PUBLIC)) {
                publicMethods.add(name);
            } else {
                otherMethods.add(name);
            }
            Due.holds("11: parameters of " + name, tree.getParameters().size() <= MOST_PARAMETERS);
            long last = unit.getLineMap().getLineNumber(places.getEndPosition(unit, tree));
            Due.holds("11: lines of " + name, last - line(tree) < MOST_LINES);
            String outer = method;
            method = name;
            calls.computeIfAbsent(name, key -> new TreeSet<>());
            super.visitMethod(tree, none);
            method = outer;
            return null;
        }

        @Override
        public Void visitMethodInvocation(MethodInvocationTree tree, Void none) {
            if (tree.getMethodSelect() instanceof IdentifierTree called) {
                calls.computeIfAbsent(method, key -> new TreeSet<>()).add(called.getName().toString());
            } else if (tree.getMethodSelect() instanceof MemberSelectTree called) {
                calls.computeIfAbsent(method, key -> new TreeSet<>()).add(called.getIdentifier().toString());
                String from = called.getExpression().toString();
                if (Character.isUpperCase(from.charAt(0)) && !from.equals("NAMES")) {
                    Due.holds("4: " + called + ", line " + line(tree), LIBRARY.contains(called.toString()));
                }
            }
            return super.visitMethodInvocation(tree, none);
        }

        @Override
        public Void visitBinary(BinaryTree tree, Void none) {
            boolean joins = tree.getKind() == Tree.Kind.PLUS && (isText(tree.getLeftOperand()) || isText(tree.getRightOperand()));
            Due.holds("10: texts joined by +, line " + line(tree), !joins);
            return super.visitBinary(tree, none);
        }

        private static boolean isText(Tree tree) {
            return tree instanceof LiteralTree literal && literal.getValue() instanceof String;
        }

        @Override
        public Void visitNewClass(NewClassTree tree, Void none) {
            Due.holds("2: no anonymous class, line " + line(tree), tree.getClassBody() == null);
            return super.visitNewClass(tree, none);
        }

        @Override
        public Void visitImport(ImportTree tree, Void none) {
            refuse("4: an import", tree);
            return super.visitImport(tree, none);
        }

        @Override
        public Void visitThrow(ThrowTree tree, Void none) {
            refuse("6: throw", tree);
            return super.visitThrow(tree, none);
        }

        @Override
        public Void visitTry(TryTree tree, Void none) {
            refuse("6: try", tree);
            return super.visitTry(tree, none);
        }

        @Override
        public Void visitCatch(CatchTree tree, Void none) {
            refuse("6: catch", tree);
            return super.visitCatch(tree, none);
        }

        @Override
        public Void visitSynchronized(SynchronizedTree tree, Void none) {
            refuse("6: synchronized", tree);
            return super.visitSynchronized(tree, none);
        }

        @Override
        public Void visitAssert(AssertTree tree, Void none) {
            refuse("6: assert", tree);
            return super.visitAssert(tree, none);
        }

        @Override
        public Void visitLambdaExpression(LambdaExpressionTree tree, Void none) {
            refuse("2: a lambda", tree);
            return super.visitLambdaExpression(tree, none);
        }

        @Override
        public Void visitMemberReference(MemberReferenceTree tree, Void none) {
            refuse("2: a method reference", tree);
            return super.visitMemberReference(tree, none);
        }
    }
}
