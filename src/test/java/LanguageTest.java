import com.sun.source.tree.*;
import com.sun.source.util.JavacTask;
import com.sun.source.util.SourcePositions;
import com.sun.source.util.TreePath;
import com.sun.source.util.TreePathScanner;
import com.sun.source.util.Trees;
import java.nio.file.Path;
import java.util.ArrayList;
import java.util.HashMap;
import java.util.LinkedHashMap;
import java.util.List;
import java.util.Map;
import java.util.Set;
import java.util.TreeMap;
import java.util.TreeSet;
import javax.lang.model.element.Element;
import javax.lang.model.element.ElementKind;
import javax.lang.model.element.ExecutableElement;
import javax.lang.model.element.Modifier;
import javax.lang.model.element.TypeElement;
import javax.lang.model.type.TypeKind;
import javax.lang.model.type.TypeMirror;
import javax.tools.JavaCompiler;
import javax.tools.StandardJavaFileManager;
import javax.tools.ToolProvider;

/** Looks whether src/main/java/WhyNot.java keeps to the rules of LANGUAGE.md that a program can see. */
public final class LanguageTest {
    private static final Set<String> FACE = Set.of("int feed(int,int,int,int,int)", "int end(int)", "int program()",
            "int fault(int)", "int place(int,int)", "int fits()", "int kind(int,int)", "int clashes(long)", "long core()",
            "int meets(int,int)", "int cores()", "long coreAt(int)", "int trust(int,int)", "long cheapest()",
            "int mends()", "long mendAt(int)", "int hints()", "int hint(int,int)", "int apply(int)", "int run(int)",
            "int right(int)", "boolean untell(int)", "int later(int)", "int left(int)", "long sure(int)",
            "int image(int)", "int back(int)", "int about(int)");
    private static final Set<String> LIBRARY = Set.of("String.length", "String.charAt", "System.arraycopy", "Math.min",
            "Math.max", "Long.bitCount");
    private static final Set<Tree.Kind> REFUSED = Set.of(Tree.Kind.THROW, Tree.Kind.TRY, Tree.Kind.CATCH,
            Tree.Kind.SYNCHRONIZED, Tree.Kind.ASSERT, Tree.Kind.LAMBDA_EXPRESSION, Tree.Kind.MEMBER_REFERENCE,
            Tree.Kind.SWITCH_EXPRESSION, Tree.Kind.INSTANCE_OF, Tree.Kind.ANNOTATION, Tree.Kind.ENHANCED_FOR_LOOP,
            Tree.Kind.WHILE_LOOP, Tree.Kind.DO_WHILE_LOOP, Tree.Kind.DIVIDE, Tree.Kind.REMAINDER,
            Tree.Kind.NULL_LITERAL, Tree.Kind.DOUBLE_LITERAL, Tree.Kind.FLOAT_LITERAL);
    private static int wrong = 0;

    private final Trees trees;
    private final CompilationUnitTree unit;
    private final Set<String> publicNames = new TreeSet<>();
    private final Set<String> seenFace = new TreeSet<>();
    private final Map<String, Set<String>> calls = new LinkedHashMap<>();
    private final Map<String, Integer> fields = new TreeMap<>();
    private int classes = 0;

    private LanguageTest(Trees trees, CompilationUnitTree unit) {
        this.trees = trees;
        this.unit = unit;
        for (String f : FACE) {
            publicNames.add(f.substring(f.indexOf(' ') + 1, f.indexOf('(')));
        }
    }

    private void refuse(String rule, Tree at) {
        wrong++;
        SourcePositions p = trees.getSourcePositions();
        long line = unit.getLineMap().getLineNumber(p.getStartPosition(unit, at));
        System.out.println("line " + line + ": " + rule);
    }

    private int lines(Tree at) {
        SourcePositions p = trees.getSourcePositions();
        return (int) (unit.getLineMap().getLineNumber(p.getEndPosition(unit, at))
                - unit.getLineMap().getLineNumber(p.getStartPosition(unit, at)) + 1);
    }

    private boolean allowed(TypeMirror t) {
        if (t.getKind() == TypeKind.ARRAY) {
            TypeMirror of = ((javax.lang.model.type.ArrayType) t).getComponentType();
            return of.getKind() != TypeKind.ARRAY && allowed(of);
        }
        if (t.getKind().isPrimitive() || t.getKind() == TypeKind.VOID) {
            return t.getKind() != TypeKind.DOUBLE && t.getKind() != TypeKind.FLOAT;
        }
        return t.toString().equals("java.lang.String") || t.toString().startsWith("WhyNot");
    }

    private static String ownerOf(Element e) {
        return ((TypeElement) e.getEnclosingElement()).getSimpleName().toString();
    }

    private final class Looker extends TreePathScanner<Void, Void> {
        private String method = null;

        @Override
        public Void scan(Tree t, Void v) {
            if (t != null && REFUSED.contains(t.getKind())) {
                refuse("not used here: " + t.getKind(), t);
            }
            return super.scan(t, v);
        }

        @Override
        public Void visitClass(ClassTree c, Void v) {
            classes++;
            Set<Modifier> m = c.getModifiers().getFlags();
            boolean outer = c.getSimpleName().contentEquals("WhyNot");
            if (outer ? !m.contains(Modifier.PUBLIC) || !m.contains(Modifier.FINAL)
                    : m.contains(Modifier.PUBLIC) || m.contains(Modifier.PROTECTED) || !m.contains(Modifier.STATIC)) {
                refuse("rules 1, 2: a class's words", c);
            }
            return super.visitClass(c, v);
        }

        @Override
        public Void visitBlock(BlockTree b, Void v) {
            if (getCurrentPath().getParentPath().getLeaf() instanceof ClassTree) {
                refuse("rule 5: an initialiser block", b);
            }
            return super.visitBlock(b, v);
        }

        @Override
        public Void visitMethod(MethodTree t, Void v) {
            ExecutableElement e = (ExecutableElement) trees.getElement(getCurrentPath());
            boolean outer = ownerOf(e).equals("WhyNot");
            String name = e.getSimpleName().toString();
            boolean shown = e.getModifiers().contains(Modifier.PUBLIC);
            String told = e.getReturnType() + " " + e;
            if (shown && !name.equals("<init>")) {
                seenFace.add(told);
                if (!outer || !FACE.contains(told)) {
                    refuse("rule 1: not of the face: " + told, t);
                }
            } else if (publicNames.contains(name)) {
                refuse("rule 1: a public one's name: " + name, t);
            } else if (outer && !shown && !e.getModifiers().contains(Modifier.PRIVATE)) {
                refuse("rule 1: neither public nor private: " + told, t);
            }
            if (t.getParameters().size() > 7 || lines(t) > 60) {
                refuse("rule 11: parameters or lines of " + told, t);
            }
            if (!allowed(e.getReturnType())) {
                refuse("rule 3: " + told, t);
            }
            method = ownerOf(e) + "." + e;
            calls.putIfAbsent(method, new TreeSet<>());
            super.visitMethod(t, v);
            method = null;
            return null;
        }

        @Override
        public Void visitVariable(VariableTree t, Void v) {
            Element e = trees.getElement(getCurrentPath());
            if (e != null && e.getKind() == ElementKind.FIELD) {
                Set<Modifier> m = e.getModifiers();
                boolean constant = m.contains(Modifier.STATIC);
                if (!constant) {
                    fields.merge(ownerOf(e), 1, Integer::sum);
                }
                if (constant && (!m.contains(Modifier.FINAL)
                        || !Set.of("int", "long", "boolean", "char", "java.lang.String", "int[]", "long[]", "char[]", "byte[]")
                                .contains(e.asType().toString()))) {
                    refuse("rule 5: static " + e, t);
                }
                if (ownerOf(e).equals("WhyNot") && !m.contains(Modifier.PRIVATE) && !e.getSimpleName().contentEquals("NONE")) {
                    refuse("rule 1: a field that is not private: " + e, t);
                }
            }
            if (e != null && !allowed(e.asType())) {
                refuse("rule 3: " + e.asType() + " " + e, t);
            }
            return super.visitVariable(t, v);
        }

        @Override
        public Void visitForLoop(ForLoopTree t, Void v) {
            if (t.getCondition() == null || t.getUpdate().isEmpty()) {
                refuse("rule 9: a loop without a bound of its own", t);
            }
            return super.visitForLoop(t, v);
        }

        @Override
        public Void visitNewClass(NewClassTree t, Void v) {
            mayMake(t);
            called((ExecutableElement) trees.getElement(getCurrentPath()));
            return super.visitNewClass(t, v);
        }

        @Override
        public Void visitNewArray(NewArrayTree t, Void v) {
            mayMake(t);
            return super.visitNewArray(t, v);
        }

        /** All that an object needs is made with it, so that calls make nothing in the room. */
        private void mayMake(Tree t) {
            if (method != null && !method.equals("WhyNot.WhyNot()")) {
                refuse("rule 12: made by " + method, t);
            }
        }

        @Override
        public Void visitMethodInvocation(MethodInvocationTree t, Void v) {
            TreePath select = new TreePath(getCurrentPath(), t.getMethodSelect());
            ExecutableElement e = (ExecutableElement) trees.getElement(select);
            if (!e.getSimpleName().contentEquals("<init>")) {
                called(e);
            }
            return super.visitMethodInvocation(t, v);
        }

        private void called(ExecutableElement e) {
            String type = ((TypeElement) e.getEnclosingElement()).getQualifiedName().toString();
            if (type.startsWith("WhyNot")) {
                if (method != null) {
                    calls.get(method).add(ownerOf(e) + "." + e);
                }
            } else if (!LIBRARY.contains(ownerOf(e) + "." + e.getSimpleName())) {
                refuse("rule 4: " + e, getCurrentPath().getLeaf());
            }
        }

        @Override
        public Void visitBinary(BinaryTree t, Void v) {
            TypeMirror a = trees.getTypeMirror(new TreePath(getCurrentPath(), t.getLeftOperand()));
            TypeMirror b = trees.getTypeMirror(new TreePath(getCurrentPath(), t.getRightOperand()));
            if (a.toString().equals("java.lang.String") || b.toString().equals("java.lang.String")) {
                refuse("rules 6, 10: texts beside " + t.getKind(), t);
            }
            return super.visitBinary(t, v);
        }

        @Override
        public Void visitCompoundAssignment(CompoundAssignmentTree t, Void v) {
            TypeMirror a = trees.getTypeMirror(new TreePath(getCurrentPath(), t.getVariable()));
            if (!a.getKind().isPrimitive()) {
                refuse("rule 10: " + t.getKind() + " of a text", t);
            }
            return super.visitCompoundAssignment(t, v);
        }
    }

    private final Map<String, Integer> depths = new HashMap<>();

    private int depth(String method, List<String> open) {
        if (open.contains(method)) {
            wrong++;
            System.out.println("rule 8: " + method + " calls itself: " + open);
            return 0;
        }
        Integer known = depths.get(method);
        if (known != null) {
            return known;
        }
        int most = 0;
        List<String> inner = new ArrayList<>(open);
        inner.add(method);
        for (String other : calls.getOrDefault(method, Set.of())) {
            most = Math.max(most, depth(other, inner));
        }
        depths.put(method, most + 1);
        return most + 1;
    }

    private String longest(String method) {
        for (String other : calls.getOrDefault(method, Set.of())) {
            if (depths.getOrDefault(other, 0) == depths.get(method) - 1) {
                return method + " > " + longest(other);
            }
        }
        return method;
    }

    private void finish() {
        if (!seenFace.equals(new TreeSet<>(FACE))) {
            refuse("rule 1: the face is " + seenFace, unit);
        }
        if (classes > 12) {
            refuse("rule 11: " + classes + " classes", unit);
        }
        fields.forEach((type, count) -> {
            if (count > 20) {
                refuse("rule 11: " + count + " fields of " + type, unit);
            }
        });
        for (String method : calls.keySet()) {
            if (depth(method, List.of()) > 8) {
                refuse("rule 11: " + depths.get(method) + " deep: " + longest(method), unit);
            }
        }
        if (!unit.getImports().isEmpty() || unit.getPackage() != null || unit.getTypeDecls().size() != 1) {
            refuse("no import, no package, one class", unit);
        }
    }

    public static void main(String[] args) throws Exception {
        Path file = Path.of(args.length > 0 ? args[0] : "src/main/java/WhyNot.java");
        for (byte b : java.nio.file.Files.readAllBytes(file)) {
            if (b != 10 && (b < 32 || b > 126)) {
                wrong++;
                System.out.println("a sign that is not plain: " + b);
            }
        }
        JavaCompiler compiler = ToolProvider.getSystemJavaCompiler();
        StandardJavaFileManager manager = compiler.getStandardFileManager(null, null, null);
        JavacTask task = (JavacTask) compiler.getTask(null, manager, null, List.of("-proc:none"), null,
                manager.getJavaFileObjects(file));
        CompilationUnitTree unit = task.parse().iterator().next();
        task.analyze();
        LanguageTest test = new LanguageTest(Trees.instance(task), unit);
        test.new Looker().scan(unit, null);
        test.finish();
        System.out.println("LanguageTest: " + wrong + " wrong");
        if (wrong != 0) {
            System.exit(1);
        }
    }
}
