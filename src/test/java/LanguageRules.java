import com.sun.source.tree.AssertTree;
import com.sun.source.tree.CatchTree;
import com.sun.source.tree.ClassTree;
import com.sun.source.tree.CompilationUnitTree;
import com.sun.source.tree.IdentifierTree;
import com.sun.source.tree.LambdaExpressionTree;
import com.sun.source.tree.MemberReferenceTree;
import com.sun.source.tree.MethodInvocationTree;
import com.sun.source.tree.MethodTree;
import com.sun.source.tree.NewArrayTree;
import com.sun.source.tree.NewClassTree;
import com.sun.source.tree.SynchronizedTree;
import com.sun.source.tree.ThrowTree;
import com.sun.source.tree.Tree;
import com.sun.source.tree.TryTree;
import com.sun.source.tree.VariableTree;
import com.sun.source.util.JavacTask;
import com.sun.source.util.TreePathScanner;
import com.sun.source.util.Trees;
import java.io.File;
import java.lang.reflect.Constructor;
import java.lang.reflect.Field;
import java.lang.reflect.Method;
import java.lang.reflect.Modifier;
import java.nio.file.Files;
import java.util.Arrays;
import java.util.HashMap;
import java.util.HashSet;
import java.util.LinkedHashMap;
import java.util.LinkedHashSet;
import java.util.List;
import java.util.Map;
import java.util.Set;
import java.util.TreeSet;
import javax.lang.model.element.Element;
import javax.lang.model.element.ElementKind;
import javax.lang.model.element.ExecutableElement;
import javax.lang.model.element.TypeElement;
import javax.tools.JavaCompiler;
import javax.tools.StandardJavaFileManager;
import javax.tools.ToolProvider;

/** The face, and those rules of LANGUAGE.md that can be seen from the source (run in the project's root). */
public final class LanguageRules {
    private static final String SOURCE = "src/main/java/DockingMonitor.java";
    private static final String[] FACE = {
        "int place(int,int,int,int)", "int set(int,int)", "int setPoint(int,int)", "int addStop(int)",
        "int setBias(boolean,int)", "int approach()", "int release()", "int retreat()", "int open(int)",
        "int pass(int)", "int append(int)", "int clearText()", "int faultPosition()", "int run()",
        "int undo()", "int save(int)", "int restore(int)", "int bits(int)", "int thousandths(int)",
        "int limit(int)", "int judgement()", "int stop(int,int)", "int point(int,int)", "int total(int)",
        "int modeIn(int)", "int secondsTo(int)", "int closest(int)", "int safeSpeed()"};
    private static final String[] CONSTANTS = {"BAD_INDEX", "BAD_VALUE", "NOT_POSSIBLE", "FULL", "NONE"};
    private static final int DEEPEST = 8;

    private static void face() throws ReflectiveOperationException {
        Class<?> c = DockingMonitor.class;
        Due.is("rule 1: public and final", c.getModifiers(), Modifier.PUBLIC | Modifier.FINAL);
        Set<String> methods = new TreeSet<>();
        Set<String> names = new HashSet<>();
        for (Method m : c.getDeclaredMethods()) {
            if (!Modifier.isPrivate(m.getModifiers())) {
                Due.is("rule 1: " + m.getName() + " is public alone", m.getModifiers(), Modifier.PUBLIC);
                String types = Arrays.toString(m.getParameterTypes()).replaceAll("[\\[\\] ]", "");
                methods.add(m.getReturnType() + " " + m.getName() + "(" + types + ")");
                names.add(m.getName());
            }
        }
        Due.same("rule 1: the methods", methods.toString(), new TreeSet<>(List.of(FACE)).toString());
        for (Method m : c.getDeclaredMethods()) {
            if (Modifier.isPrivate(m.getModifiers())) {
                Due.is("rule 1: " + m.getName() + " is no name of the face", names.contains(m.getName()) ? 1 : 0, 0);
            }
        }
        Set<String> constants = new TreeSet<>();
        for (Field f : c.getDeclaredFields()) {
            if (!Modifier.isPrivate(f.getModifiers())) {
                Due.is("rule 1: " + f.getName(), f.getModifiers(),
                        Modifier.PUBLIC | Modifier.STATIC | Modifier.FINAL);
                constants.add(f.getName());
            }
        }
        Due.same("rule 1: the constants", constants.toString(),
                new TreeSet<>(List.of(CONSTANTS)).toString());
        for (int i = 0; i < CONSTANTS.length; i++) {
            Due.is(CONSTANTS[i], c.getField(CONSTANTS[i]).getInt(null), -1 - i);
        }
        Due.is("rule 1: one constructor", c.getDeclaredConstructors().length, 1);
        Constructor<?> made = c.getDeclaredConstructors()[0];
        Due.is("rule 1: it is public", made.getModifiers(), Modifier.PUBLIC);
        Due.is("rule 1: without parameters", made.getParameterCount(), 0);
    }

    /** Walks through the source and asks each thing in it whether a rule allows it. */
    private static final class Walk extends TreePathScanner<Void, Void> {
        final Trees trees;
        final CompilationUnitTree unit;
        final Set<String> ownClasses = new LinkedHashSet<>();
        final Map<Element, Set<Element>> calls = new LinkedHashMap<>();
        final Map<Element, Integer> depths = new HashMap<>();
        Element method;

        Walk(Trees trees, CompilationUnitTree unit) {
            this.trees = trees;
            this.unit = unit;
        }

        private void rule(String what, boolean kept) {
            Due.is(what, kept ? 1 : 0, 1);
        }

        private long lines(Tree t) {
            long from = trees.getSourcePositions().getStartPosition(unit, t);
            long to = trees.getSourcePositions().getEndPosition(unit, t);
            return unit.getLineMap().getLineNumber(to) - unit.getLineMap().getLineNumber(from) + 1;
        }

        @Override
        public Void visitClass(ClassTree t, Void v) {
            Element e = trees.getElement(getCurrentPath());
            ownClasses.add(t.getSimpleName().toString());
            Set<javax.lang.model.element.Modifier> m = e.getModifiers();
            if (e.getEnclosingElement().getKind() == ElementKind.CLASS) {
                rule("rule 1: " + e + " is static", m.contains(javax.lang.model.element.Modifier.STATIC));
                rule("rule 1: " + e + " is hidden", !m.contains(javax.lang.model.element.Modifier.PUBLIC)
                        && !m.contains(javax.lang.model.element.Modifier.PROTECTED));
            }
            int fields = 0;
            for (Element inside : e.getEnclosedElements()) {
                boolean isStatic = inside.getModifiers().contains(javax.lang.model.element.Modifier.STATIC);
                if (inside.getKind() == ElementKind.FIELD && !isStatic) {
                    fields++;
                }
                if (inside.getKind() == ElementKind.FIELD && isStatic) {
                    rule("rule 5: " + inside + " is final",
                            inside.getModifiers().contains(javax.lang.model.element.Modifier.FINAL));
                    rule("rule 5: the type of " + inside, List.of("int", "long", "boolean", "char",
                            "java.lang.String", "int[]", "long[]", "char[]", "byte[]").contains(
                            inside.asType().toString()));
                }
            }
            rule("rule 11: fields of " + e, fields <= 20);
            return super.visitClass(t, v);
        }

        @Override
        public Void visitMethod(MethodTree t, Void v) {
            Element before = method;
            method = trees.getElement(getCurrentPath());
            calls.putIfAbsent(method, new LinkedHashSet<>());
            rule("rule 11: lines of " + t.getName(), lines(t) <= 60);
            rule("rule 11: parameters of " + t.getName(), t.getParameters().size() <= 7);
            boolean inside = !((TypeElement) method.getEnclosingElement()).getQualifiedName()
                    .contentEquals("DockingMonitor");
            if (inside) {
                for (String face : FACE) {
                    rule("rule 1: " + t.getName() + " is no name of the face",
                            !face.startsWith("int " + t.getName() + "("));
                }
            }
            super.visitMethod(t, v);
            method = before;
            return null;
        }

        @Override
        public Void visitVariable(VariableTree t, Void v) {
            String type = trees.getTypeMirror(new com.sun.source.util.TreePath(getCurrentPath(), t.getType()))
                    .toString().replace("DockingMonitor.", "").replace("[]", "");
            rule("rule 3: the type " + type, List.of("int", "long", "short", "byte", "char", "boolean",
                    "float", "double", "java.lang.String").contains(type) || ownClasses.contains(type));
            return super.visitVariable(t, v);
        }

        @Override
        public Void visitMethodInvocation(MethodInvocationTree t, Void v) {
            ExecutableElement called = (ExecutableElement) trees.getElement(getCurrentPath());
            String owner = called.getEnclosingElement().toString();
            if (owner.startsWith("DockingMonitor")) {
                calls.get(method).add(called);
            } else {
                rule("rule 4: " + owner + "." + called, called.getSimpleName().contentEquals("<init>")
                        || owner.equals("java.lang.System") && called.getSimpleName().contentEquals("arraycopy"));
            }
            return super.visitMethodInvocation(t, v);
        }

        @Override
        public Void visitIdentifier(IdentifierTree t, Void v) {
            Element e = trees.getElement(getCurrentPath());
            if (e instanceof TypeElement) {
                rule("rule 4: " + e, e.toString().startsWith("DockingMonitor")
                        || e.toString().equals("java.lang.System"));
            }
            return super.visitIdentifier(t, v);
        }

        @Override
        public Void visitNewClass(NewClassTree t, Void v) {
            rule("objects are made by constructors alone", method.getKind() == ElementKind.CONSTRUCTOR);
            return super.visitNewClass(t, v);
        }

        @Override
        public Void visitNewArray(NewArrayTree t, Void v) {
            rule("rows are made by constructors alone",
                    method == null || method.getKind() == ElementKind.CONSTRUCTOR);
            return super.visitNewArray(t, v);
        }

        @Override
        public Void visitLambdaExpression(LambdaExpressionTree t, Void v) {
            rule("rule 2: no lambda", false);
            return null;
        }

        @Override
        public Void visitMemberReference(MemberReferenceTree t, Void v) {
            rule("rule 2: no method reference", false);
            return null;
        }

        @Override
        public Void visitTry(TryTree t, Void v) {
            rule("nothing here is thrown, so nothing is tried", false);
            return null;
        }

        @Override
        public Void visitCatch(CatchTree t, Void v) {
            rule("nothing is caught", false);
            return null;
        }

        @Override
        public Void visitThrow(ThrowTree t, Void v) {
            rule("the document asks for no exception", false);
            return null;
        }

        @Override
        public Void visitSynchronized(SynchronizedTree t, Void v) {
            rule("rule 6: no synchronized", false);
            return null;
        }

        @Override
        public Void visitAssert(AssertTree t, Void v) {
            rule("rule 6: no assert", false);
            return null;
        }

        int depth(Element e, Set<Element> open) {
            if (!open.add(e)) {
                rule("rule 8: " + e + " calls itself", false);
                return 0;
            }
            Integer known = depths.get(e);
            int deepest = 0;
            if (known == null) {
                for (Element called : calls.getOrDefault(e, Set.of())) {
                    deepest = Math.max(deepest, depth(called, open));
                }
                known = deepest + 1;
                depths.put(e, known);
            }
            open.remove(e);
            return known;
        }

        void afterwards() {
            rule("rule 11: classes", ownClasses.size() <= 12);
            int deepest = 0;
            for (Element e : calls.keySet()) {
                int depth = depth(e, new HashSet<>());
                deepest = Math.max(deepest, depth);
                rule("rule 11: calls from " + e + " go " + depth + " deep", depth <= DEEPEST);
            }
            System.out.println(ownClasses.size() + " classes, calls go " + deepest + " deep");
        }
    }

    private static void source() throws Exception {
        for (byte b : Files.readAllBytes(new File(SOURCE).toPath())) {
            if (b < 0) {
                Due.is("the source is written in ASCII", 0, 1);
            }
        }
        JavaCompiler compiler = ToolProvider.getSystemJavaCompiler();
        try (StandardJavaFileManager files = compiler.getStandardFileManager(null, null, null)) {
            JavacTask task = (JavacTask) compiler.getTask(null, files, null, List.of("-proc:none"), null,
                    files.getJavaFileObjects(new File(SOURCE)));
            CompilationUnitTree unit = task.parse().iterator().next();
            task.analyze();
            Due.is("rule 4: imports", unit.getImports().size(), 0);
            Due.is("no package line", unit.getPackageName() == null ? 1 : 0, 1);
            Due.is("one public class", unit.getTypeDecls().size(), 1);
            Walk walk = new Walk(Trees.instance(task), unit);
            for (Tree type : unit.getTypeDecls()) {
                for (Tree member : ((ClassTree) type).getMembers()) {
                    if (member instanceof ClassTree) {
                        walk.ownClasses.add(((ClassTree) member).getSimpleName().toString());
                    }
                }
            }
            walk.scan(unit, null);
            walk.afterwards();
        }
    }

    public static void main(String[] args) throws Exception {
        face();
        source();
        Due.end();
    }
}
