import com.sun.source.tree.AssertTree;
import com.sun.source.tree.BinaryTree;
import com.sun.source.tree.ClassTree;
import com.sun.source.tree.CompilationUnitTree;
import com.sun.source.tree.CompoundAssignmentTree;
import com.sun.source.tree.ExpressionTree;
import com.sun.source.tree.LambdaExpressionTree;
import com.sun.source.tree.MemberReferenceTree;
import com.sun.source.tree.MethodInvocationTree;
import com.sun.source.tree.MethodTree;
import com.sun.source.tree.NewClassTree;
import com.sun.source.tree.SynchronizedTree;
import com.sun.source.tree.ThrowTree;
import com.sun.source.tree.Tree;
import com.sun.source.tree.TryTree;
import com.sun.source.tree.VariableTree;
import com.sun.source.util.JavacTask;
import com.sun.source.util.TreePath;
import com.sun.source.util.TreePathScanner;
import com.sun.source.util.Trees;
import java.lang.reflect.Constructor;
import java.lang.reflect.Field;
import java.lang.reflect.Method;
import java.lang.reflect.Modifier;
import java.nio.file.Files;
import java.nio.file.Path;
import java.util.HashSet;
import java.util.List;
import java.util.Map;
import java.util.Set;
import java.util.TreeMap;
import java.util.TreeSet;
import java.util.regex.Matcher;
import java.util.regex.Pattern;
import javax.lang.model.element.Element;
import javax.lang.model.element.ExecutableElement;
import javax.lang.model.type.TypeMirror;
import javax.tools.JavaCompiler;
import javax.tools.StandardJavaFileManager;
import javax.tools.ToolProvider;

/** The rules of LANGUAGE.md that can be read from the source, and the face that the document tells. */
public final class LanguageTest {
    private static final Path SOURCE = Path.of("src/main/java/DarkShadows.java");
    private static final Path DOCUMENT = Path.of("../shared/DOC.md");
    private static final Set<String> LIBRARY = Set.of("java.lang.Math.abs", "java.lang.Math.max", "java.lang.Math.min",
        "java.lang.Math.floorDiv", "java.lang.Math.floorMod", "java.lang.Integer.bitCount", "java.lang.System.arraycopy",
        "java.util.Arrays.fill", "java.util.Arrays.copyOf");

    private static int passed = 0;
    private static int failed = 0;

    private static void must(boolean good, String what) {
        if (good) {
            passed++;
            return;
        }
        failed++;
        System.out.println(what);
    }

    public static void main(String[] args) throws Exception {
        checkFace();
        checkLetters();
        checkSource();
        System.out.println(passed + " passed, " + failed + " failed");
        if (failed != 0) {
            System.exit(1);
        }
    }

    private static void checkFace() throws Exception {
        Class<?> face = DarkShadows.class;
        must(Modifier.isPublic(face.getModifiers()) && Modifier.isFinal(face.getModifiers()), "rule 1: public and final");
        Set<String> want = new TreeSet<>();
        Matcher method = Pattern.compile("public int (\\w+)\\(([^)]*)\\);").matcher(Files.readString(DOCUMENT));
        while (method.find()) {
            want.add(method.group(1) + "(" + method.group(2).replaceAll("(int|long) \\w+", "$1") + ")");
        }
        must(want.size() == 31, "the document's face has " + want.size() + " methods");
        Set<String> have = new TreeSet<>();
        Set<String> publicNames = new HashSet<>();
        for (Method one : face.getDeclaredMethods()) {
            if (Modifier.isPublic(one.getModifiers())) {
                publicNames.add(one.getName());
                have.add(one.getName() + "(" + parameters(one) + ")");
                must(one.getReturnType() == int.class, "rule 1: the answer of " + one.getName());
            }
        }
        must(have.equals(want), "rule 1: the face is " + have);
        for (Method one : face.getDeclaredMethods()) {
            must(Modifier.isPublic(one.getModifiers()) || Modifier.isPrivate(one.getModifiers()), "rule 1: " + one);
            must(Modifier.isPublic(one.getModifiers()) || !publicNames.contains(one.getName()), "rule 1: the name of " + one);
        }
        for (Field one : face.getDeclaredFields()) {
            boolean isConstant = one.getName().matches("BAD|NOT|FULL|NONE|NULL|CAST|INDEX|SIZE");
            must(isConstant ? Modifier.isPublic(one.getModifiers()) : Modifier.isPrivate(one.getModifiers()), "rule 1: " + one);
        }
        Constructor<?>[] made = face.getDeclaredConstructors();
        must(made.length == 1 && Modifier.isPublic(made[0].getModifiers()) && made[0].getParameterCount() == 0, "rule 1: the constructor");
    }

    private static String parameters(Method one) {
        StringBuilder text = new StringBuilder();
        for (Class<?> type : one.getParameterTypes()) {
            text.append(text.length() == 0 ? "" : ", ").append(type.getName());
        }
        return text.toString();
    }

    private static void checkLetters() throws Exception {
        for (byte b : Files.readAllBytes(SOURCE)) {
            must(b > 0, "rule 4: a sign above 127");
        }
    }

    private static void checkSource() throws Exception {
        JavaCompiler compiler = ToolProvider.getSystemJavaCompiler();
        try (StandardJavaFileManager files = compiler.getStandardFileManager(null, null, null)) {
            JavacTask task = (JavacTask) compiler.getTask(null, files, null, List.of("-proc:none"), null, files.getJavaFileObjects(SOURCE));
            CompilationUnitTree unit = task.parse().iterator().next();
            task.analyze();
            Rules rules = new Rules(Trees.instance(task), unit);
            rules.scan(unit, null);
            must(rules.classes <= 12, "rule 11: classes: " + rules.classes);
            for (String method : rules.calls.keySet()) {
                must(rules.depth(method, new HashSet<>()) <= 8, "rule 11: calls below " + method);
            }
        }
    }

    private static final class Rules extends TreePathScanner<Void, Void> {
        final Map<String, Set<String>> calls = new TreeMap<>();
        int classes = 0;
        private final Trees trees;
        private final CompilationUnitTree unit;
        private String method = "";

        Rules(Trees trees, CompilationUnitTree unit) {
            this.trees = trees;
            this.unit = unit;
        }

        private long line(long place) {
            return unit.getLineMap().getLineNumber(place);
        }

        private void not(String rule, Tree tree) {
            must(false, rule + ": line " + line(trees.getSourcePositions().getStartPosition(unit, tree)));
        }

        int depth(String method, Set<String> above) {
            if (!above.add(method)) {
                must(false, "rule 8: " + method + " calls itself");
                return 0;
            }
            int deepest = 0;
            for (String called : calls.getOrDefault(method, Set.of())) {
                deepest = Math.max(deepest, depth(called, above));
            }
            above.remove(method);
            return deepest + 1;
        }

        @Override public Void visitClass(ClassTree tree, Void none) {
            classes++;
            int fields = 0;
            for (Tree member : tree.getMembers()) {
                boolean isField = member instanceof VariableTree;
                if (isField && !((VariableTree) member).getModifiers().getFlags().contains(javax.lang.model.element.Modifier.STATIC)) {
                    fields++;
                }
            }
            must(fields <= 20, "rule 11: fields of " + tree.getSimpleName());
            boolean isInside = getCurrentPath().getParentPath().getLeaf() instanceof ClassTree;
            Set<javax.lang.model.element.Modifier> flags = tree.getModifiers().getFlags();
            must(!isInside || flags.contains(javax.lang.model.element.Modifier.STATIC), "rule 2: " + tree.getSimpleName());
            must(!isInside || !flags.contains(javax.lang.model.element.Modifier.PUBLIC), "rule 1: " + tree.getSimpleName());
            return super.visitClass(tree, none);
        }

        @Override public Void visitMethod(MethodTree tree, Void none) {
            long first = line(trees.getSourcePositions().getStartPosition(unit, tree));
            long last = line(trees.getSourcePositions().getEndPosition(unit, tree));
            must(last - first < 60, "rule 11: the length of " + tree.getName());
            must(tree.getParameters().size() <= 7, "rule 11: the parameters of " + tree.getName());
            Element element = trees.getElement(getCurrentPath());
            method = element.getEnclosingElement() + "." + element;
            calls.put(method, new TreeSet<>());
            Void answer = super.visitMethod(tree, none);
            method = "";
            return answer;
        }

        @Override public Void visitMethodInvocation(MethodInvocationTree tree, Void none) {
            note(trees.getElement(getCurrentPath()));
            return super.visitMethodInvocation(tree, none);
        }

        @Override public Void visitNewClass(NewClassTree tree, Void none) {
            must(tree.getClassBody() == null, "rule 2: an anonymous class");
            note(trees.getElement(getCurrentPath()));
            return super.visitNewClass(tree, none);
        }

        private void note(Element element) {
            String owner = element.getEnclosingElement().toString();
            if (owner.equals("DarkShadows") || owner.startsWith("DarkShadows.")) {
                calls.getOrDefault(method, new TreeSet<>()).add(owner + "." + element);
            } else {
                String name = owner + "." + ((ExecutableElement) element).getSimpleName();
                must(LIBRARY.contains(name) || name.equals("java.lang.Object.<init>"), "rule 4: " + name);
            }
        }

        @Override public Void visitVariable(VariableTree tree, Void none) {
            Set<javax.lang.model.element.Modifier> flags = tree.getModifiers().getFlags();
            boolean isStatic = flags.contains(javax.lang.model.element.Modifier.STATIC);
            must(!isStatic || flags.contains(javax.lang.model.element.Modifier.FINAL), "rule 5: " + tree.getName());
            String type = trees.getTypeMirror(getCurrentPath()).toString();
            must(type.matches("(int|long|char|boolean)(\\[\\])?|DarkShadows\\.\\w+"), "rule 3: " + tree.getName() + " is " + type);
            return super.visitVariable(tree, none);
        }

        @Override public Void visitBinary(BinaryTree tree, Void none) {
            boolean isBitwise = tree.getKind() == Tree.Kind.AND || tree.getKind() == Tree.Kind.OR || tree.getKind() == Tree.Kind.XOR;
            checkOperand(tree.getLeftOperand(), isBitwise, tree);
            checkOperand(tree.getRightOperand(), isBitwise, tree);
            return super.visitBinary(tree, none);
        }

        @Override public Void visitCompoundAssignment(CompoundAssignmentTree tree, Void none) {
            checkOperand(tree.getVariable(), true, tree);
            checkOperand(tree.getExpression(), true, tree);
            return super.visitCompoundAssignment(tree, none);
        }

        /** Of booleans rule 10 lists && and || alone; of texts it asks a StringBuilder. */
        private void checkOperand(ExpressionTree operand, boolean isBitwise, Tree whole) {
            TypeMirror type = trees.getTypeMirror(new TreePath(getCurrentPath(), operand));
            if (type.toString().equals("java.lang.String") || isBitwise && type.toString().equals("boolean")) {
                not("rule 10", whole);
            }
        }

        @Override public Void visitLambdaExpression(LambdaExpressionTree tree, Void none) {
            not("rule 2", tree);
            return super.visitLambdaExpression(tree, none);
        }

        @Override public Void visitMemberReference(MemberReferenceTree tree, Void none) {
            not("rule 2", tree);
            return super.visitMemberReference(tree, none);
        }

        @Override public Void visitThrow(ThrowTree tree, Void none) {
            not("rule 6", tree);
            return super.visitThrow(tree, none);
        }

        @Override public Void visitTry(TryTree tree, Void none) {
            not("rule 6", tree);
            return super.visitTry(tree, none);
        }

        @Override public Void visitAssert(AssertTree tree, Void none) {
            not("rule 6", tree);
            return super.visitAssert(tree, none);
        }

        @Override public Void visitSynchronized(SynchronizedTree tree, Void none) {
            not("rule 6", tree);
            return super.visitSynchronized(tree, none);
        }
    }
}
