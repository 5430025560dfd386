import com.sun.source.tree.*;
import com.sun.source.util.*;
import java.nio.file.*;
import java.util.*;
import javax.lang.model.element.Modifier;
import javax.tools.*;

/** What of LANGUAGE.md a program can see: words, lengths, depths, statics, and where objects are made. */
public final class LanguageTest {
    private static final Path FILE = Path.of("src/main/java/LastPenny.java");
    private static final int DEEPEST = 8, LONGEST = 60, MOST_PARAMETERS = 7, MOST_FIELDS = 20, MOST_CLASSES = 12;
    private static final Set<String> LIBRARY = Set.of("length", "charAt", "arraycopy", "bitCount", "max", "min");
    private static int wrong;
    private static final Map<String, Set<String>> calls = new TreeMap<>();
    private static final Map<String, Boolean> isPublic = new TreeMap<>();

    private static void fault(String what) {
        wrong++;
        System.out.println("language: " + what);
    }

    public static void main(String[] args) throws Exception {
        String source = Files.readString(FILE);
        for (int i = 0; i < source.length(); i++) {
            if (source.charAt(i) > 126) fault("sign " + (int) source.charAt(i));
        }
        JavaCompiler compiler = ToolProvider.getSystemJavaCompiler();
        try (StandardJavaFileManager files = compiler.getStandardFileManager(null, null, null)) {
            JavacTask task = (JavacTask) compiler.getTask(null, files, null, null, null, files.getJavaFileObjects(FILE));
            for (CompilationUnitTree unit : task.parse()) {
                if (!unit.getImports().isEmpty()) fault("an import");
                new Look(unit, Trees.instance(task).getSourcePositions()).scan(unit, null);
            }
        }
        for (String name : calls.keySet()) {
            int deep = depth(name, new ArrayDeque<>());
            if (deep > DEEPEST) fault(name + " goes " + deep + " deep");
        }
        System.out.println("LanguageTest: " + (wrong == 0 ? "as the rules that can be seen" : wrong + " faults"));
        if (wrong != 0) System.exit(1);
    }

    private static int depth(String name, Deque<String> open) {
        if (!calls.containsKey(name)) return 1;
        if (open.contains(name)) {
            fault("recursion of " + name);
            return 1;
        }
        open.push(name);
        int most = 0;
        for (String called : calls.get(name)) most = Math.max(most, depth(called, open));
        open.pop();
        return most + 1;
    }

    private static final class Look extends TreeScanner<Void, Void> {
        private final CompilationUnitTree unit;
        private final SourcePositions places;
        private String method;
        private int classes;

        Look(CompilationUnitTree unit, SourcePositions places) {
            this.unit = unit;
            this.places = places;
        }

        private int lines(Tree t) {
            LineMap map = unit.getLineMap();
            return (int) (map.getLineNumber(places.getEndPosition(unit, t)) - map.getLineNumber(places.getStartPosition(unit, t)) + 1);
        }

        @Override public Void visitClass(ClassTree t, Void v) {
            if (++classes > MOST_CLASSES) fault("too many classes");
            if (classes > 1 && !t.getModifiers().getFlags().contains(Modifier.STATIC)) fault("inner class " + t.getSimpleName());
            int fields = 0;
            for (Tree member : t.getMembers()) {
                if (member instanceof VariableTree field) {
                    Set<Modifier> flags = field.getModifiers().getFlags();
                    if (!flags.contains(Modifier.STATIC)) fields++;
                    else if (!flags.contains(Modifier.FINAL)) fault("static " + field.getName());
                } else if (member instanceof BlockTree) {
                    fault("an initialiser block");
                }
            }
            if (fields > MOST_FIELDS) fault("fields of " + t.getSimpleName());
            return super.visitClass(t, v);
        }

        @Override public Void visitMethod(MethodTree t, Void v) {
            method = t.getName().toString();
            boolean open = t.getModifiers().getFlags().contains(Modifier.PUBLIC);
            boolean constructor = method.equals("<init>");
            if (!constructor && isPublic.put(method, open) != null) fault("two methods are named " + method);
            if (t.getParameters().size() > MOST_PARAMETERS) fault("parameters of " + method);
            if (lines(t) > LONGEST) fault("length of " + method);
            calls.putIfAbsent(method, new TreeSet<>());
            super.visitMethod(t, v);
            method = null;
            return null;
        }

        @Override public Void visitMethodInvocation(MethodInvocationTree t, Void v) {
            String name = t.getMethodSelect() instanceof MemberSelectTree m ? m.getIdentifier().toString() : t.getMethodSelect().toString();
            if (method != null && !name.equals("super")) calls.get(method).add(name);
            return super.visitMethodInvocation(t, v);
        }

        @Override public Void visitMemberSelect(MemberSelectTree t, Void v) {
            String left = t.getExpression().toString();
            boolean library = Set.of("Math", "Integer", "System", "name").contains(left);
            if (library && !LIBRARY.contains(t.getIdentifier().toString())) fault("library: " + t);
            return super.visitMemberSelect(t, v);
        }

        // All rows are made with the object, so that no call makes anything.
        @Override public Void visitNewClass(NewClassTree t, Void v) {
            if (method != null && !method.equals("<init>")) fault(method + " makes an object");
            return super.visitNewClass(t, v);
        }

        @Override public Void visitNewArray(NewArrayTree t, Void v) {
            if (method != null && !method.equals("<init>")) fault(method + " makes an array");
            return super.visitNewArray(t, v);
        }

        @Override public Void visitThrow(ThrowTree t, Void v) { fault("throw"); return null; }

        @Override public Void visitTry(TryTree t, Void v) { fault("try"); return null; }

        @Override public Void visitSynchronized(SynchronizedTree t, Void v) { fault("synchronized"); return null; }

        @Override public Void visitAssert(AssertTree t, Void v) { fault("assert"); return null; }

        @Override public Void visitLambdaExpression(LambdaExpressionTree t, Void v) { fault("lambda"); return null; }

        @Override public Void visitMemberReference(MemberReferenceTree t, Void v) { fault("method reference"); return null; }
    }
}
