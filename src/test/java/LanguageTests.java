import com.sun.source.tree.AnnotationTree;
import com.sun.source.tree.AssertTree;
import com.sun.source.tree.BinaryTree;
import com.sun.source.tree.ClassTree;
import com.sun.source.tree.CompilationUnitTree;
import com.sun.source.tree.ImportTree;
import com.sun.source.tree.LambdaExpressionTree;
import com.sun.source.tree.MemberReferenceTree;
import com.sun.source.tree.MemberSelectTree;
import com.sun.source.tree.MethodTree;
import com.sun.source.tree.NewArrayTree;
import com.sun.source.tree.NewClassTree;
import com.sun.source.tree.SynchronizedTree;
import com.sun.source.tree.Tree;
import com.sun.source.tree.TryTree;
import com.sun.source.tree.VariableTree;
import com.sun.source.tree.WhileLoopTree;
import com.sun.source.util.JavacTask;
import com.sun.source.util.TreePath;
import com.sun.source.util.TreePathScanner;
import com.sun.source.util.Trees;
import java.io.File;
import java.lang.reflect.Constructor;
import java.lang.reflect.Field;
import java.lang.reflect.Method;
import java.lang.reflect.Modifier;
import java.util.ArrayList;
import java.util.Arrays;
import java.util.HashSet;
import java.util.List;
import java.util.Set;
import javax.lang.model.element.Element;
import javax.lang.model.element.ExecutableElement;
import javax.lang.model.element.TypeElement;
import javax.lang.model.type.TypeKind;
import javax.tools.JavaCompiler;
import javax.tools.StandardJavaFileManager;
import javax.tools.ToolProvider;

/** The face of the class, and the rules of LANGUAGE.md that can be read off the file. Argument: the file. */
final class LanguageTests {
    private static final Check CHECK = new Check();
    private static final Set<String> TYPES = Set.of("int", "long", "short", "byte", "char", "boolean", "double",
        "float", "void");
    /** The calls out of the file that this file makes, all of them on the list of rule 4. */
    private static final Set<String> LIBRARY = Set.of("java.lang.Math.min(int,int)", "java.lang.Math.max(int,int)",
        "java.lang.System.arraycopy(java.lang.Object,int,java.lang.Object,int,int)");

    private static final String[] FACE = {
        "boolean bands(int,int,int,int,int)", "int chip()", "int cloth()", "int dye(int)", "int strength(int,int)",
        "boolean cents(int,int)", "int band(int,int,int)", "boolean pick(int,int)", "int blend(int,int,int,int)",
        "int part(boolean,int,int)", "boolean predict(int)", "boolean light(int,int,int)",
        "boolean eye(int,int,int,int)", "boolean measure(int,int,int)", "long colour(int,int,int,int,int)",
        "long distance(int,int,int,int)", "int nearest(int,int,int)", "int parting(int,int,int)",
        "int solid(int,int,int,int,int,int,int)", "int inside(int,int)",
        "int recipe(int,int,int,int,int,int,int,int)", "int recipeOf(int)", "long recipeBy(int)",
        "int lot(int,int,int,int)", "int batch(int,int)", "int weigh(int,int,int)",
        "int correct(int,int,int,int,int,int)", "int addition(int)", "boolean measured(int)", "int passes(int,int)",
        "int told(int,int)", "int weighed(int,int,boolean)", "boolean remeasure(int)", "int drift(int)",
        "int pack(int,int)", "int out(int) throws java.util.NoSuchElementException", "boolean letter(int,int)",
        "boolean post()", "boolean unpack()", "int undo()", "int trouble()", "int count(int)"};

    public static void main(String[] args) throws Exception {
        String file = args.length > 0 ? args[0] : "src/main/java/ColourHouse.java";
        face();
        fieldsAndNames();
        read(file);
        CHECK.end("LanguageTests");
    }

    private static void face() {
        CHECK.promise("the face");
        List<String> found = new ArrayList<>();
        for (Method m : ColourHouse.class.getDeclaredMethods()) {
            if (!Modifier.isPrivate(m.getModifiers()) && !m.isSynthetic()) {
                CHECK.same(m + " is public and no more", m.getModifiers(), Modifier.PUBLIC);
                found.add(told(m));
            }
        }
        for (String due : FACE) {
            CHECK.yes(due, found.remove(due));
        }
        CHECK.yes("nothing else " + found, found.isEmpty());
        CHECK.same("public and final", ColourHouse.class.getModifiers(), Modifier.PUBLIC | Modifier.FINAL);
        Constructor<?>[] made = ColourHouse.class.getDeclaredConstructors();
        CHECK.yes("one public constructor", made.length == 1 && made[0].getModifiers() == Modifier.PUBLIC
            && made[0].getParameterCount() == 0);
        for (Field f : ColourHouse.class.getDeclaredFields()) {
            int due = f.getName().equals("NONE") ? Modifier.PUBLIC | Modifier.STATIC | Modifier.FINAL : Modifier.PRIVATE;
            CHECK.same("field " + f.getName(), f.getModifiers() & due, due);
        }
    }

    private static String told(Method m) {
        StringBuilder s = new StringBuilder();
        for (Class<?> p : m.getParameterTypes()) {
            s.append(s.length() == 0 ? "" : ",").append(p.getName());
        }
        String end = m.getExceptionTypes().length == 0 ? "" : " throws " + m.getExceptionTypes()[0].getName();
        return m.getReturnType() + " " + m.getName() + "(" + s + ")" + end;
    }

    private static List<Class<?>> classes() {
        List<Class<?>> all = new ArrayList<>(Arrays.asList(ColourHouse.class.getDeclaredClasses()));
        all.add(ColourHouse.class);
        return all;
    }

    private static void fieldsAndNames() {
        CHECK.promise("rules 1, 3, 5, 11");
        Set<String> names = new HashSet<>();
        for (String f : FACE) {
            names.add(f.substring(f.indexOf(' ') + 1, f.indexOf('(')));
        }
        CHECK.yes("at most twelve classes", classes().size() <= 12);
        for (Class<?> c : classes()) {
            int fields = 0;
            for (Field f : c.getDeclaredFields()) {
                boolean isStatic = Modifier.isStatic(f.getModifiers());
                fields += isStatic ? 0 : 1;
                boolean constant = Modifier.isFinal(f.getModifiers())
                    && (f.getType() == int.class || f.getType() == long.class);
                CHECK.yes("static " + f, !isStatic || constant);
                CHECK.yes("type of " + f, isKnown(f.getType()));
            }
            CHECK.yes("fields of " + c, fields <= 20);
            if (c == ColourHouse.class) {
                continue;
            }
            int modifiers = Modifier.PRIVATE | Modifier.STATIC | Modifier.FINAL;
            CHECK.same("modifiers of " + c, c.getModifiers() & modifiers, modifiers);
            for (Method m : c.getDeclaredMethods()) {
                CHECK.no(m + " bears a name of the face", names.contains(m.getName()));
            }
        }
        Set<String> own = new HashSet<>();
        for (Method m : ColourHouse.class.getDeclaredMethods()) {
            if (Modifier.isPrivate(m.getModifiers())) {
                CHECK.no(m + " bears a name of the face", names.contains(m.getName()));
                own.add(m.getName());
            }
        }
        CHECK.no("private methods were looked at", own.isEmpty());
    }

    private static boolean isKnown(Class<?> type) {
        Class<?> c = type;
        for (int depth = 0; depth < 2 && c.isArray(); depth++) {
            c = c.getComponentType();
        }
        return !c.isArray() && (TYPES.contains(c.getName()) || classes().contains(c));
    }

    private static void read(String file) throws Exception {
        CHECK.promise("the file");
        JavaCompiler compiler = ToolProvider.getSystemJavaCompiler();
        try (StandardJavaFileManager files = compiler.getStandardFileManager(null, null, null)) {
            JavacTask task = (JavacTask) compiler.getTask(null, files, null, List.of("-proc:none"), null,
                files.getJavaFileObjects(new File(file)));
            CompilationUnitTree unit = task.parse().iterator().next();
            task.analyze();
            CHECK.yes("no package", unit.getPackageName() == null);
            for (ImportTree i : unit.getImports()) {
                CHECK.yes("" + i, i.toString().trim().equals("import java.util.NoSuchElementException;"));
            }
            CHECK.same("one class", unit.getTypeDecls().size(), 1);
            new Rules(Trees.instance(task), unit).scan(unit, null);
            for (char sign : unit.getSourceFile().getCharContent(true).toString().toCharArray()) {
                if (sign > 126) {
                    CHECK.same("a sign of the file", sign, ' ');
                }
            }
        }
    }

    /** What no line of the file may hold. */
    private static final class Rules extends TreePathScanner<Void, Void> {
        private final Trees trees;
        private final CompilationUnitTree unit;
        private MethodTree method;

        Rules(Trees trees, CompilationUnitTree unit) {
            this.trees = trees;
            this.unit = unit;
        }

        private void never(String rule, Tree t) {
            long line = unit.getLineMap().getLineNumber(trees.getSourcePositions().getStartPosition(unit, t));
            CHECK.no("line " + line + ": " + rule, true);
        }

        private long lines(Tree t) {
            return unit.getLineMap().getLineNumber(trees.getSourcePositions().getEndPosition(unit, t))
                - unit.getLineMap().getLineNumber(trees.getSourcePositions().getStartPosition(unit, t)) + 1;
        }

        @Override
        public Void visitMethod(MethodTree m, Void v) {
            CHECK.yes("rule 11, lines of " + m.getName(), lines(m) <= 60);
            CHECK.yes("rule 11, parameters of " + m.getName(),
                m.getParameters().size() <= 7 || m.getName().contentEquals("recipe"));
            method = m;
            super.visitMethod(m, v);
            method = null;
            return null;
        }

        @Override
        public Void visitNewClass(NewClassTree t, Void v) {
            Tree parent = getCurrentPath().getParentPath().getLeaf();
            boolean isThrown = parent.getKind() == Tree.Kind.THROW;
            boolean isInitial = method == null || method.getName().contentEquals("<init>");
            CHECK.yes("rule 12, new " + t.getIdentifier(), isThrown || isInitial);
            if (isThrown) {
                CHECK.yes("rule 6, " + t, t.getIdentifier().toString().equals("NoSuchElementException"));
                CHECK.no("rule 6, " + t, isInitial);
            }
            return super.visitNewClass(t, v);
        }

        @Override
        public Void visitNewArray(NewArrayTree t, Void v) {
            CHECK.yes("rule 12, " + t, method == null);
            return super.visitNewArray(t, v);
        }

        @Override
        public Void visitMemberSelect(MemberSelectTree t, Void v) {
            check(t);
            return super.visitMemberSelect(t, v);
        }

        private void check(Tree t) {
            Element e = trees.getElement(new TreePath(getCurrentPath(), t));
            if (e == null) {
                e = trees.getElement(getCurrentPath());
            }
            if (!(e instanceof ExecutableElement)) {
                return;
            }
            TypeElement owner = (TypeElement) e.getEnclosingElement();
            if (!owner.getQualifiedName().toString().startsWith("ColourHouse")) {
                CHECK.yes("rule 4, " + owner + "." + e, LIBRARY.contains(owner + "." + e));
            }
        }

        @Override
        public Void visitBinary(BinaryTree t, Void v) {
            if (t.getKind() == Tree.Kind.PLUS) {
                CHECK.yes("rule 10, " + t, trees.getTypeMirror(getCurrentPath()).getKind() != TypeKind.DECLARED);
            }
            if (t.getKind() == Tree.Kind.REMAINDER) {
                CHECK.yes("rule 3, " + t, trees.getTypeMirror(getCurrentPath()).getKind() == TypeKind.INT);
            }
            return super.visitBinary(t, v);
        }

        @Override
        public Void visitVariable(VariableTree t, Void v) {
            CHECK.no("rule 3, var", t.getType() == null);
            return super.visitVariable(t, v);
        }

        @Override
        public Void visitClass(ClassTree t, Void v) {
            for (Tree member : t.getMembers()) {
                CHECK.no("rule 5, a static block", member.getKind() == Tree.Kind.BLOCK);
            }
            return super.visitClass(t, v);
        }

        @Override
        public Void visitLambdaExpression(LambdaExpressionTree t, Void v) {
            never("rule 2, a lambda", t);
            return null;
        }

        @Override
        public Void visitMemberReference(MemberReferenceTree t, Void v) {
            never("rule 2, a method reference", t);
            return null;
        }

        @Override
        public Void visitTry(TryTree t, Void v) {
            never("rule 6, a try, and nothing here throws to be caught", t);
            return null;
        }

        @Override
        public Void visitWhileLoop(WhileLoopTree t, Void v) {
            never("rule 9, a loop without a counter", t);
            return null;
        }

        @Override
        public Void visitSynchronized(SynchronizedTree t, Void v) {
            never("rule 6, synchronized", t);
            return null;
        }

        @Override
        public Void visitAssert(AssertTree t, Void v) {
            never("rule 6, assert", t);
            return null;
        }

        @Override
        public Void visitAnnotation(AnnotationTree t, Void v) {
            never("an annotation", t);
            return null;
        }
    }
}
