import com.sun.source.tree.AssertTree;
import com.sun.source.tree.BinaryTree;
import com.sun.source.tree.ClassTree;
import com.sun.source.tree.CompilationUnitTree;
import com.sun.source.tree.CompoundAssignmentTree;
import com.sun.source.tree.ImportTree;
import com.sun.source.tree.LambdaExpressionTree;
import com.sun.source.tree.MemberReferenceTree;
import com.sun.source.tree.MethodInvocationTree;
import com.sun.source.tree.MethodTree;
import com.sun.source.tree.NewArrayTree;
import com.sun.source.tree.NewClassTree;
import com.sun.source.tree.SynchronizedTree;
import com.sun.source.tree.ThrowTree;
import com.sun.source.tree.Tree;
import com.sun.source.tree.TryTree;
import com.sun.source.tree.TypeCastTree;
import com.sun.source.tree.VariableTree;
import com.sun.source.tree.WhileLoopTree;
import com.sun.source.util.JavacTask;
import com.sun.source.util.TreePathScanner;
import com.sun.source.util.Trees;
import java.lang.management.ManagementFactory;
import java.lang.reflect.Method;
import java.lang.reflect.Modifier;
import java.nio.file.Path;
import java.util.ArrayList;
import java.util.Collections;
import java.util.HashMap;
import java.util.List;
import java.util.Map;
import java.util.Set;
import java.util.TreeSet;
import javax.lang.model.element.Element;
import javax.lang.model.element.ElementKind;
import javax.lang.model.element.ExecutableElement;
import javax.lang.model.element.TypeElement;
import javax.tools.JavaCompiler;
import javax.tools.StandardJavaFileManager;
import javax.tools.ToolProvider;

/** What of ../shared/LANGUAGE.md can be read off src/main/java/SharedAir.java, and how much room calls take. */
public final class RulesTest {
    private static final String FACE = "int sign(int) boolean end(int) int net() int sets(int,int) int setting(int) "
        + "int sheet(int,int,int,int,int) int offers(int,int,int,int) int slots(int) int draws() int station(int,int) "
        + "int rank(int,int,int) int frame(int,int,int,int) int exchange(int,int) int sent() int spanOf(int) int rate(int,int) "
        + "int hidden() int tally(int,int) int why(int) int spoilt(int,int) int held(int) int even() int busy() int odds(int,int) "
        + "int window(int,int) int ahead(int,int) int quiet() int next() int soonest(int) int day() int undo() int years(int,int) "
        + "boolean keep(int) boolean again(int) int count(int) long row(int)";
    private static final Set<String> LIBRARY = Set.of("Math.max", "Math.min", "Integer.bitCount", "System.arraycopy");
    private static int wrong = 0;

    private static void rule(String rule, boolean kept, String where) {
        if (!kept) {
            wrong++;
            System.out.println("rule " + rule + ": " + where);
        }
    }

    public static void main(String[] args) throws Exception {
        face();
        source(args.length > 0 ? args[0] : "src/main/java/SharedAir.java");
        room();
        System.out.println(wrong == 0 ? "the rules are kept" : wrong + " rules are not kept");
        if (wrong != 0) {
            System.exit(1);
        }
    }

    private static void face() {
        Set<String> want = new TreeSet<>(List.of(FACE.split("(?<=\\)) ")));
        Set<String> got = new TreeSet<>();
        for (Method m : SharedAir.class.getDeclaredMethods()) {
            if (Modifier.isPrivate(m.getModifiers())) {
                continue;
            }
            StringBuilder told = new StringBuilder().append(m.getReturnType()).append(' ').append(m.getName()).append('(');
            for (int i = 0; i < m.getParameterCount(); i++) {
                told.append(i > 0 ? "," : "").append(m.getParameterTypes()[i]);
            }
            got.add(told.append(')').toString());
            rule("1", Modifier.isPublic(m.getModifiers()), m + " is not public");
        }
        rule("1", want.equals(got), "the face is " + got);
        rule("1", SharedAir.class.getModifiers() == (Modifier.PUBLIC | Modifier.FINAL), "the class is not public final");
        rule("1", SharedAir.class.getDeclaredConstructors().length == 1, "there is one constructor");
        for (java.lang.reflect.Field f : SharedAir.class.getDeclaredFields()) {
            boolean none = f.getName().equals("NONE");
            rule("1", none == !Modifier.isPrivate(f.getModifiers()), f.getName() + " is not private");
        }
    }

    private static void source(String file) throws Exception {
        JavaCompiler compiler = ToolProvider.getSystemJavaCompiler();
        try (StandardJavaFileManager files = compiler.getStandardFileManager(null, null, null)) {
            JavacTask task = (JavacTask) compiler.getTask(null, files, null, List.of("-proc:none"), null,
                files.getJavaFileObjects(Path.of(file)));
            Iterable<? extends CompilationUnitTree> units = task.parse();
            task.analyze();
            for (CompilationUnitTree unit : units) {
                Scan scan = new Scan(unit, Trees.instance(task));
                scan.scan(unit, null);
                scan.depths();
                rule("11", scan.classes <= 12, "there are " + scan.classes + " classes");
                rule("the task", unit.getPackageName() == null, "a package");
            }
        }
    }

    private static final class Scan extends TreePathScanner<Void, Void> {
        final CompilationUnitTree unit;
        final Trees trees;
        final Set<String> faceNames = new TreeSet<>();
        final Map<Element, Set<Element>> calls = new HashMap<>();
        final Map<Element, Boolean> throwing = new HashMap<>();
        int classes = 0;

        Scan(CompilationUnitTree unit, Trees trees) {
            this.unit = unit;
            this.trees = trees;
            for (String method : FACE.split("(?<=\\)) ")) {
                faceNames.add(method.replaceAll("^\\w+ |\\(.*", ""));
            }
        }

        long line(Tree tree) {
            return unit.getLineMap().getLineNumber(trees.getSourcePositions().getStartPosition(unit, tree));
        }

        long lines(Tree tree) {
            return unit.getLineMap().getLineNumber(trees.getSourcePositions().getEndPosition(unit, tree)) - line(tree) + 1;
        }

        Element method() {
            for (var path = getCurrentPath(); path != null; path = path.getParentPath()) {
                if (path.getLeaf() instanceof MethodTree) {
                    return trees.getElement(path);
                }
            }
            return null;
        }

        @Override
        public Void visitClass(ClassTree tree, Void none) {
            classes++;
            int fields = 0;
            for (Tree member : tree.getMembers()) {
                if (member instanceof VariableTree v) {
                    boolean isStatic = v.getModifiers().getFlags().contains(javax.lang.model.element.Modifier.STATIC);
                    boolean isFinal = v.getModifiers().getFlags().contains(javax.lang.model.element.Modifier.FINAL);
                    rule("5", !isStatic || isFinal, v.getName() + " is static and not final");
                    fields += isStatic ? 0 : 1;
                }
                boolean nested = member instanceof ClassTree;
                rule("2", !nested || ((ClassTree) member).getModifiers().getFlags().contains(javax.lang.model.element.Modifier.STATIC),
                    "a class inside is not static");
                rule("5", !(member instanceof com.sun.source.tree.BlockTree), "an initialiser block");
            }
            rule("11", fields <= 20, tree.getSimpleName() + " has " + fields + " fields");
            return super.visitClass(tree, none);
        }

        @Override
        public Void visitMethod(MethodTree tree, Void none) {
            String name = tree.getName().toString();
            boolean isPublic = tree.getModifiers().getFlags().contains(javax.lang.model.element.Modifier.PUBLIC);
            rule("1", isPublic || !faceNames.contains(name), name + " bears the name of a public one, line " + line(tree));
            rule("6", !Set.of("equals", "hashCode", "toString").contains(name), name + " of its own");
            rule("11", tree.getParameters().size() <= 7, name + " takes too many");
            rule("11", lines(tree) <= 60, name + " is " + lines(tree) + " lines long");
            return super.visitMethod(tree, none);
        }

        @Override
        public Void visitMethodInvocation(MethodInvocationTree tree, Void none) {
            ExecutableElement called = (ExecutableElement) trees.getElement(getCurrentPath());
            TypeElement of = (TypeElement) called.getEnclosingElement();
            if (called.getKind() == ElementKind.METHOD) {
                String name = of.getSimpleName() + "." + called.getSimpleName();
                boolean own = of.toString().startsWith("SharedAir");
                rule("4", own || LIBRARY.contains(name), name + " in line " + line(tree));
                calls.computeIfAbsent(method(), k -> Collections.newSetFromMap(new HashMap<>())).add(called);
            }
            return super.visitMethodInvocation(tree, none);
        }

        void depths() {
            for (Element first : calls.keySet()) {
                deeper(first, new ArrayList<>());
            }
        }

        void deeper(Element at, List<Element> above) {
            if (above.contains(at)) {
                rule("8", false, "a recursion through " + at);
                return;
            }
            above.add(at);
            rule("11", above.size() <= 8, "calls go too deep: " + above);
            for (Element called : calls.getOrDefault(at, Set.of())) {
                deeper(called, above);
            }
            above.remove(above.size() - 1);
        }

        @Override
        public Void visitNewClass(NewClassTree tree, Void none) {
            Element of = method();
            boolean thrown = getCurrentPath().getParentPath().getLeaf() instanceof ThrowTree;
            rule("the room", thrown || of == null || of.getKind() == ElementKind.CONSTRUCTOR, "a call makes an object in line " + line(tree));
            rule("2", tree.getClassBody() == null, "an anonymous class in line " + line(tree));
            return super.visitNewClass(tree, none);
        }

        @Override
        public Void visitNewArray(NewArrayTree tree, Void none) {
            Element of = method();
            rule("the room", of == null, "a call makes an array in line " + line(tree));
            return super.visitNewArray(tree, none);
        }

        @Override
        public Void visitThrow(ThrowTree tree, Void none) {
            rule("6", method().getKind() != ElementKind.CONSTRUCTOR, "a throw in a constructor");
            rule("6", tree.getExpression().toString().equals("new NoSuchElementException()"), tree + " in line " + line(tree));
            return super.visitThrow(tree, none);
        }

        @Override
        public Void visitBinary(BinaryTree tree, Void none) {
            boolean text = trees.getTypeMirror(getCurrentPath()).toString().equals("java.lang.String");
            rule("10", !text, "a text joined by + in line " + line(tree));
            return super.visitBinary(tree, none);
        }

        @Override
        public Void visitCompoundAssignment(CompoundAssignmentTree tree, Void none) {
            boolean text = trees.getTypeMirror(getCurrentPath()).toString().equals("java.lang.String");
            rule("10", !text, "a text joined by += in line " + line(tree));
            return super.visitCompoundAssignment(tree, none);
        }

        @Override
        public Void visitImport(ImportTree tree, Void none) {
            rule("4", tree.getQualifiedIdentifier().toString().equals("java.util.NoSuchElementException"), tree.toString());
            return super.visitImport(tree, none);
        }

        @Override
        public Void visitTypeCast(TypeCastTree tree, Void none) {
            rule("3", Set.of("byte", "short", "int", "long").contains(tree.getType().toString()), tree + " in line " + line(tree));
            return super.visitTypeCast(tree, none);
        }

        private void never(String rule, Tree tree) {
            rule(rule, false, tree.getKind() + " in line " + line(tree));
        }

        @Override
        public Void visitWhileLoop(WhileLoopTree tree, Void none) {
            never("9", tree);
            return null;
        }

        @Override
        public Void visitLambdaExpression(LambdaExpressionTree tree, Void none) {
            never("2", tree);
            return null;
        }

        @Override
        public Void visitMemberReference(MemberReferenceTree tree, Void none) {
            never("2", tree);
            return null;
        }

        @Override
        public Void visitTry(TryTree tree, Void none) {
            never("6", tree);
            return null;
        }

        @Override
        public Void visitSynchronized(SynchronizedTree tree, Void none) {
            never("6", tree);
            return null;
        }

        @Override
        public Void visitAssert(AssertTree tree, Void none) {
            never("6", tree);
            return null;
        }
    }

    /** 512 of the dearest calls make next to nothing: the rows stand since the constructor. */
    private static void room() {
        if (!(ManagementFactory.getThreadMXBean() instanceof com.sun.management.ThreadMXBean bean)) {
            return;
        }
        SharedAir x = new SharedAir();
        int[] net = {0x36616231, 0x62633263, 0x64336465, 0x31656632};
        calls(x, net);
        long before = bean.getThreadAllocatedBytes(Thread.currentThread().getId());
        for (int i = 0; i < 24; i++) {
            calls(x, net);
        }
        long made = bean.getThreadAllocatedBytes(Thread.currentThread().getId()) - before;
        rule("12", made < 100_000, "480 calls made " + made + " bytes");
    }

    private static void calls(SharedAir x, int[] net) {
        x.end(0);
        for (int v : net) {
            x.sign(v);
        }
        x.net();
        for (int s = 0; s < 5; s++) {
            x.offers(s, s % 4, s + 1, 9);
        }
        x.slots(60);
        x.ahead(60, 0);
        x.quiet();
        x.soonest(3);
        x.years(5, 40);
        x.keep(0);
        x.again(0);
        x.undo();
        x.hidden();
        x.even();
    }
}
