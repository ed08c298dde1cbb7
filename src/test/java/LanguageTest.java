import com.sun.source.tree.AssertTree;
import com.sun.source.tree.BinaryTree;
import com.sun.source.tree.BlockTree;
import com.sun.source.tree.ClassTree;
import com.sun.source.tree.CompilationUnitTree;
import com.sun.source.tree.DoWhileLoopTree;
import com.sun.source.tree.ExpressionTree;
import com.sun.source.tree.ForLoopTree;
import com.sun.source.tree.ImportTree;
import com.sun.source.tree.LambdaExpressionTree;
import com.sun.source.tree.LiteralTree;
import com.sun.source.tree.MemberReferenceTree;
import com.sun.source.tree.MethodInvocationTree;
import com.sun.source.tree.MethodTree;
import com.sun.source.tree.NewArrayTree;
import com.sun.source.tree.NewClassTree;
import com.sun.source.tree.SynchronizedTree;
import com.sun.source.tree.ThrowTree;
import com.sun.source.tree.Tree;
import com.sun.source.tree.TryTree;
import com.sun.source.tree.TypeCastTree;
import com.sun.source.tree.VariableTree;
import com.sun.source.tree.WhileLoopTree;
import com.sun.source.util.JavacTask;
import com.sun.source.util.TreePath;
import com.sun.source.util.TreePathScanner;
import com.sun.source.util.Trees;
import java.io.File;
import java.lang.management.ManagementFactory;
import java.lang.reflect.Array;
import java.lang.reflect.Field;
import java.lang.reflect.Method;
import java.lang.reflect.Modifier;
import java.util.ArrayList;
import java.util.Arrays;
import java.util.HashMap;
import java.util.HashSet;
import java.util.IdentityHashMap;
import java.util.List;
import java.util.Map;
import java.util.Set;
import javax.lang.model.element.Element;
import javax.lang.model.element.ElementKind;
import javax.lang.model.element.ExecutableElement;
import javax.lang.model.element.TypeElement;
import javax.lang.model.type.TypeKind;
import javax.lang.model.type.TypeMirror;
import javax.tools.JavaCompiler;
import javax.tools.StandardJavaFileManager;
import javax.tools.ToolProvider;

/** The face of the class, those rules of LANGUAGE.md that can be seen from the source, and the room that it takes. */
public final class LanguageTest {
    private static final String SOURCE = "src/main/java/GameOfNoes.java";
    private static final String[] FACE = {
        "about(int)int", "again()int", "back()int", "balanced(int)int", "best(int)int", "book(int)boolean", "can(int,int)int",
        "drawn(int,int,int)int", "end(int)int", "fault(int)int", "feed(int,int,int,int,int)int", "good(int)int", "heap(int,int)boolean",
        "image()int", "judge()int", "line(int,int)int", "loses(int,int,int)int", "match(int,int)int", "offers(int)int",
        "piece(int,int,int)boolean", "play(int,int,int,int,int)boolean", "ply(int,int,int,int,int)int", "run(int)int", "runs()int",
        "states()int", "text()int", "turn(int)boolean", "way(int,int)boolean", "won()int"
    };
    // What the library may be used for; own classes aside.
    private static final Set<String> LIBRARY = Set.of("java.lang.Math.max", "java.lang.Math.min", "java.lang.Integer.bitCount",
        "java.lang.String.length", "java.lang.String.charAt", "java.lang.String.indexOf", "java.lang.System.arraycopy",
        "java.util.Arrays.fill");

    private final Due due = new Due("LanguageTest");

    public static void main(String[] args) throws Exception {
        LanguageTest test = new LanguageTest();
        test.face();
        test.source();
        test.room();
        test.making();
        test.due.finish();
    }

    private void face() {
        List<String> found = new ArrayList<>();
        for (Method method : GameOfNoes.class.getDeclaredMethods()) {
            if (Modifier.isPrivate(method.getModifiers())) continue;
            StringBuilder told = new StringBuilder(method.getName()).append('(');
            for (Class<?> type : method.getParameterTypes()) told.append(told.charAt(told.length() - 1) == '(' ? "" : ",").append(type);
            found.add(told.append(')').append(method.getReturnType()).toString());
        }
        found.sort(null);
        Set<String> wanted = new HashSet<>(Arrays.asList(FACE));
        for (String method : found) due.is("in the face: " + method, wanted.remove(method), true);
        due.is("missing: " + wanted, wanted.size(), 0);
        due.is("constructors", GameOfNoes.class.getDeclaredConstructors().length, 1);
        due.is("public final", GameOfNoes.class.getModifiers(), Modifier.PUBLIC | Modifier.FINAL);
        due.is("public fields", GameOfNoes.class.getFields().length, 2);
        for (Field field : GameOfNoes.class.getDeclaredFields()) {
            boolean ofFace = field.getName().equals("NONE") || field.getName().equals("SPENT");
            due.is("private, or of the face: " + field, ofFace != Modifier.isPrivate(field.getModifiers()), true);
        }
        for (Class<?> inside : GameOfNoes.class.getDeclaredClasses()) {
            due.is("private and static: " + inside, inside.getModifiers() & (Modifier.PRIVATE | Modifier.STATIC),
                Modifier.PRIVATE | Modifier.STATIC);
        }
    }

    private void source() throws Exception {
        JavaCompiler compiler = ToolProvider.getSystemJavaCompiler();
        try (StandardJavaFileManager files = compiler.getStandardFileManager(null, null, null)) {
            JavacTask task = (JavacTask) compiler.getTask(null, files, null, List.of("-proc:none"), null,
                files.getJavaFileObjects(new File(SOURCE)));
            Iterable<? extends CompilationUnitTree> units = task.parse();
            task.analyze();
            for (CompilationUnitTree unit : units) {
                Scanner scanner = new Scanner(unit, Trees.instance(task));
                scanner.scan(unit, null);
                scanner.conclude();
            }
        }
    }

    /** The room that a run has is some 600,000 objects and 7.3 million fields and elements: one object takes little of it. */
    private void room() throws IllegalAccessException {
        Map<Object, Boolean> seen = new IdentityHashMap<>();
        List<Object> todo = new ArrayList<>(List.of(Games.spent()));
        long elements = 0;
        while (!todo.isEmpty()) {
            Object one = todo.remove(todo.size() - 1);
            if (one instanceof String || seen.put(one, true) != null) continue;
            if (one.getClass().isArray()) {
                elements += Array.getLength(one);
                if (one instanceof Object[] row) for (Object part : row) if (part != null) todo.add(part);
                continue;
            }
            for (Field field : one.getClass().getDeclaredFields()) {
                if (Modifier.isStatic(field.getModifiers())) continue;
                field.setAccessible(true);
                elements++;
                if (!field.getType().isPrimitive() && field.get(one) != null) todo.add(field.get(one));
            }
        }
        due.is(seen.size() + " objects and arrays of a game", seen.size() < 500, true);
        due.is(elements + " fields and elements of a game", elements < 400000, true);
    }

    /** No call makes anything, the dearest ones neither. */
    private void making() {
        if (!(ManagementFactory.getThreadMXBean() instanceof com.sun.management.ThreadMXBean bean)) return;
        long thread = Thread.currentThread().getId();
        GameOfNoes[] games = {Games.spent(), Games.flips(Games.FLIPS_4, 1, 1, 1, 1), Games.flips(Games.FLIPS, 2, 2, 2)};
        for (GameOfNoes x : games) everyCall(x);
        long before = bean.getThreadAllocatedBytes(thread);
        for (int i = 0; i < 10; i++) {
            for (GameOfNoes x : games) everyCall(x);
        }
        long made = bean.getThreadAllocatedBytes(thread) - before;
        due.is("bytes that calls made: " + made, made < 5000, true);
    }

    private static void everyCall(GameOfNoes x) {
        x.image();
        x.piece(0, 0, 0);
        x.heap(0, 2);
        x.turn(0);
        x.feed(0x706c6163, 0x65203120, 0x2b202832, 0x293b2020, 0x20202020);
        x.end(20);
        x.text();
        x.feed(0, 0, 0, 0, 0);
        x.text();
        x.fault(0);
        x.book(0);
        x.way(0, 0);
        x.can(0, 0);
        x.offers(-1);
        x.play(0, 1, 2, 0, 1);
        x.run(9);
        x.won();
        x.ply(0, 1, 2, 0, 1);
        x.judge();
        x.again();
        x.match(9, 0);
        x.drawn(7, 20, 0);
        x.states();
        x.best(0);
        x.good(-1);
        x.loses(0, 1, 2);
        x.line(0, 0);
        x.runs();
        x.balanced(0);
        x.back();
        x.about(0);
    }

    private final class Scanner extends TreePathScanner<Void, Void> {
        private final CompilationUnitTree unit;
        private final Trees trees;
        private final Map<Element, Set<Element>> calls = new HashMap<>();
        private final Set<String> faceNames = new HashSet<>();
        private ExecutableElement caller;
        private int classes;

        Scanner(CompilationUnitTree itsUnit, Trees itsTrees) {
            unit = itsUnit;
            trees = itsTrees;
            for (String method : FACE) faceNames.add(method.substring(0, method.indexOf('(')));
        }

        private void refuse(Tree tree, String why) {
            long at = trees.getSourcePositions().getStartPosition(unit, tree);
            due.is("line " + unit.getLineMap().getLineNumber(at) + ": " + why, 1, 0);
        }

        @Override
        public Void visitClass(ClassTree tree, Void none) {
            classes++;
            int fields = 0;
            for (Tree member : tree.getMembers()) {
                if (member instanceof BlockTree) refuse(member, "an initialiser block");
                if (member instanceof VariableTree field && !field.getModifiers().getFlags().contains(javax.lang.model.element.Modifier.STATIC)) {
                    fields++;
                }
            }
            due.is("some twenty fields of " + tree.getSimpleName(), fields <= 20, true);
            if (classes > 1) {
                due.is(tree.getSimpleName() + " is static", tree.getModifiers().getFlags().contains(javax.lang.model.element.Modifier.STATIC), true);
            }
            return super.visitClass(tree, none);
        }

        @Override
        public Void visitMethod(MethodTree tree, Void none) {
            ExecutableElement method = (ExecutableElement) trees.getElement(getCurrentPath());
            long from = trees.getSourcePositions().getStartPosition(unit, tree);
            long to = trees.getSourcePositions().getEndPosition(unit, tree);
            if (to >= 0) {
                long lines = unit.getLineMap().getLineNumber(to) - unit.getLineMap().getLineNumber(from) + 1;
                due.is(lines + " lines of " + method, lines <= 60, true);
            }
            due.is("parameters of " + method, tree.getParameters().size() <= 7, true);
            boolean ofFace = method.getModifiers().contains(javax.lang.model.element.Modifier.PUBLIC);
            due.is("a name of the face: " + method, !ofFace && faceNames.contains(method.getSimpleName().toString()), false);
            caller = method;
            calls.put(method, new HashSet<>());
            super.visitMethod(tree, none);
            caller = null;
            return null;
        }

        @Override
        public Void visitMethodInvocation(MethodInvocationTree tree, Void none) {
            Element called = trees.getElement(getCurrentPath());
            String owner = ((TypeElement) called.getEnclosingElement()).getQualifiedName().toString();
            if (owner.startsWith("GameOfNoes")) {
                if (caller != null) calls.get(caller).add(called);
            } else if (!called.getSimpleName().contentEquals("<init>")) {
                String name = owner + "." + called.getSimpleName();
                if (!LIBRARY.contains(name)) refuse(tree, name);
            }
            return super.visitMethodInvocation(tree, none);
        }

        @Override
        public Void visitVariable(VariableTree tree, Void none) {
            Element variable = trees.getElement(getCurrentPath());
            Set<javax.lang.model.element.Modifier> flags = variable.getModifiers();
            String type = variable.asType().toString();
            due.is("a type of rule 3: " + type + " " + variable, type.matches("(int|long|char|boolean|GameOfNoes\\.\\w+)(\\[\\])?|java.lang.String"), true);
            if (flags.contains(javax.lang.model.element.Modifier.STATIC)) {
                due.is("final: " + variable, flags.contains(javax.lang.model.element.Modifier.FINAL), true);
                boolean plain = variable.asType().getKind().isPrimitive() || variable.asType().toString().equals("java.lang.String")
                    || variable.asType().toString().matches("(int|long|char|byte)\\[\\]");
                due.is("a constant: " + variable, plain, true);
            }
            return super.visitVariable(tree, none);
        }

        @Override
        public Void visitBinary(BinaryTree tree, Void none) {
            if (trees.getTypeMirror(getCurrentPath()).getKind() == TypeKind.DECLARED) refuse(tree, "texts joined by +");
            if (tree.getKind() == Tree.Kind.EQUAL_TO || tree.getKind() == Tree.Kind.NOT_EQUAL_TO) {
                boolean ofTexts = isOfLibrary(typeOf(tree.getLeftOperand())) || isOfLibrary(typeOf(tree.getRightOperand()));
                due.is("not of texts: " + tree, ofTexts, false);
            }
            return super.visitBinary(tree, none);
        }

        private TypeMirror typeOf(Tree tree) {
            return trees.getTypeMirror(new TreePath(getCurrentPath(), tree));
        }

        private boolean isOfLibrary(TypeMirror type) {
            return type.getKind() == TypeKind.DECLARED && !type.toString().startsWith("GameOfNoes");
        }

        /** Rule 9, as far as it can be seen here: a loop asks for something that its lines can change. */
        private void loop(Tree tree, ExpressionTree asked) {
            boolean ends = asked != null && !asked.toString().matches("\\(*true\\)*") && asked.toString().matches("(?s).*([<>]|!= null).*");
            if (!ends) refuse(tree, "a loop without an end that can be seen");
        }

        @Override
        public Void visitForLoop(ForLoopTree tree, Void none) {
            loop(tree, tree.getCondition());
            due.is("it goes on: for " + tree.getCondition(), tree.getUpdate().size(), 1);
            return super.visitForLoop(tree, none);
        }

        @Override
        public Void visitWhileLoop(WhileLoopTree tree, Void none) {
            loop(tree, tree.getCondition());
            return super.visitWhileLoop(tree, none);
        }

        @Override
        public Void visitDoWhileLoop(DoWhileLoopTree tree, Void none) {
            loop(tree, tree.getCondition());
            return super.visitDoWhileLoop(tree, none);
        }

        /** All rows and objects are made along with the game. */
        private void made(Tree tree) {
            due.is("made in a constructor: " + tree, caller == null || caller.getKind() == ElementKind.CONSTRUCTOR, true);
        }

        @Override
        public Void visitNewClass(NewClassTree tree, Void none) {
            made(tree);
            if (tree.getClassBody() != null) refuse(tree, "a class without a name");
            return super.visitNewClass(tree, none);
        }

        @Override
        public Void visitNewArray(NewArrayTree tree, Void none) {
            made(tree);
            return super.visitNewArray(tree, none);
        }

        @Override
        public Void visitTypeCast(TypeCastTree tree, Void none) {
            due.is("among numbers: " + tree, trees.getTypeMirror(getCurrentPath()).getKind().isPrimitive(), true);
            return super.visitTypeCast(tree, none);
        }

        @Override
        public Void visitLiteral(LiteralTree tree, Void none) {
            if (tree.getValue() instanceof String text) {
                for (char sign : text.toCharArray()) due.is("a sign of a text: " + (int) sign, sign >= 1 && sign <= 127, true);
            }
            return super.visitLiteral(tree, none);
        }

        @Override
        public Void visitImport(ImportTree tree, Void none) {
            String name = tree.getQualifiedIdentifier().toString();
            due.is("import " + name, Set.of("java.util.Arrays", "java.util.ArrayList", "java.util.List").contains(name), true);
            return null;
        }

        @Override
        public Void visitThrow(ThrowTree tree, Void none) {
            refuse(tree, "throw");
            return super.visitThrow(tree, none);
        }

        @Override
        public Void visitTry(TryTree tree, Void none) {
            refuse(tree, "try");
            return super.visitTry(tree, none);
        }

        @Override
        public Void visitSynchronized(SynchronizedTree tree, Void none) {
            refuse(tree, "synchronized");
            return super.visitSynchronized(tree, none);
        }

        @Override
        public Void visitAssert(AssertTree tree, Void none) {
            refuse(tree, "assert");
            return super.visitAssert(tree, none);
        }

        @Override
        public Void visitLambdaExpression(LambdaExpressionTree tree, Void none) {
            refuse(tree, "a lambda");
            return super.visitLambdaExpression(tree, none);
        }

        @Override
        public Void visitMemberReference(MemberReferenceTree tree, Void none) {
            refuse(tree, "a method reference");
            return super.visitMemberReference(tree, none);
        }

        void conclude() {
            due.is(classes + " classes", classes <= 12, true);
            for (Element method : calls.keySet()) {
                if (!method.getModifiers().contains(javax.lang.model.element.Modifier.PUBLIC)) continue;
                List<Element> chain = longest(method, new ArrayList<>());
                due.is(chain.size() + " calls deep: " + chain, chain.size() <= 8, true);
            }
        }

        /** The longest chain of calls in which no method stands twice. */
        private List<Element> longest(Element method, List<Element> open) {
            List<Element> best = new ArrayList<>();
            open.add(method);
            for (Element called : calls.getOrDefault(method, Set.of())) {
                if (open.contains(called)) continue;
                List<Element> chain = longest(called, open);
                if (chain.size() > best.size()) best = chain;
            }
            open.remove(open.size() - 1);
            best.add(0, method);
            return best;
        }
    }
}
