import com.sun.source.tree.*;
import com.sun.source.util.*;
import java.io.File;
import java.lang.reflect.Constructor;
import java.lang.reflect.Field;
import java.lang.reflect.Method;
import java.lang.reflect.Modifier;
import java.nio.file.Files;
import java.nio.file.Path;
import java.util.ArrayList;
import java.util.Arrays;
import java.util.HashMap;
import java.util.HashSet;
import java.util.LinkedHashSet;
import java.util.List;
import java.util.Map;
import java.util.Set;
import java.util.TreeSet;
import java.util.regex.Matcher;
import java.util.regex.Pattern;
import javax.lang.model.element.Element;
import javax.lang.model.element.ElementKind;
import javax.lang.model.element.ExecutableElement;
import javax.lang.model.element.TypeElement;
import javax.lang.model.type.TypeKind;
import javax.lang.model.type.TypeMirror;
import javax.tools.JavaCompiler;
import javax.tools.StandardJavaFileManager;
import javax.tools.ToolProvider;

/** The rules of LANGUAGE.md, as far as the source and the compiled class tell. */
public final class LanguageTest {
    private static final String SOURCE = "src/main/java/FathomRoom.java";
    private static final String DOCUMENT = "../shared/DOC.md";
    private static final Set<String> LIBRARY = Set.of("String.length", "String.charAt", "System.arraycopy",
            "Math.abs", "Math.min", "Math.max", "Math.floorDiv", "Integer.bitCount");
    private static int wrong;

    private static void wrong(String what) {
        wrong++;
        System.out.println("LanguageTest: " + what);
    }

    public static void main(String[] args) throws Exception {
        face();
        source();
        System.out.println("LanguageTest: " + wrong + " rules broken");
        if (wrong != 0) {
            System.exit(1);
        }
    }

    // ---- rule 1: the face is the document's

    private static void face() throws Exception {
        String doc = Files.readString(Path.of(DOCUMENT));
        String java = doc.substring(doc.indexOf("```java"), doc.indexOf("```", doc.indexOf("```java") + 3));
        Set<String> due = new TreeSet<>();
        Matcher methods = Pattern.compile("public int (\\w+)\\(([^)]*)\\);").matcher(java);
        Set<String> names = new HashSet<>();
        while (methods.find()) {
            String parameters = methods.group(2).replaceAll("int \\w+", "int").replace(" ", "");
            due.add("int " + methods.group(1) + "(" + parameters + ")");
            names.add(methods.group(1));
        }
        Set<String> is = new TreeSet<>();
        for (Method m : FathomRoom.class.getDeclaredMethods()) {
            if (Modifier.isPrivate(m.getModifiers())) {
                if (names.contains(m.getName())) {
                    wrong("1: private " + m.getName() + " bears a public name");
                }
            } else if (!m.isSynthetic()) {
                is.add(m.getReturnType() + " " + m.getName() + Arrays.toString(m.getParameterTypes())
                        .replace('[', '(').replace(']', ')').replace(" ", ""));
            }
        }
        if (!due.equals(is)) {
            wrong("1: the face is " + is + ", due is " + due);
        }
        for (Field f : FathomRoom.class.getDeclaredFields()) {
            boolean constant = List.of("NONE", "BAD", "STATE", "FULL", "NO").contains(f.getName());
            if (constant != !Modifier.isPrivate(f.getModifiers()) || constant && f.getModifiers() != (1 | 8 | 16)) {
                wrong("1: field " + f.getName());
            }
        }
        Constructor<?>[] constructors = FathomRoom.class.getDeclaredConstructors();
        if (constructors.length != 1 || !Modifier.isPublic(constructors[0].getModifiers())
                || !Modifier.isFinal(FathomRoom.class.getModifiers())) {
            wrong("1: constructor, or not final");
        }
    }

    // ---- the other rules: the source

    private static void source() throws Exception {
        JavaCompiler compiler = ToolProvider.getSystemJavaCompiler();
        StandardJavaFileManager files = compiler.getStandardFileManager(null, null, null);
        JavacTask task = (JavacTask) compiler.getTask(null, files, null, List.of("-proc:none"), null,
                files.getJavaFileObjects(new File(SOURCE)));
        CompilationUnitTree unit = task.parse().iterator().next();
        task.analyze();
        if (unit.getPackageName() != null || !unit.getImports().isEmpty() || unit.getTypeDecls().size() != 1) {
            wrong("1: package, imports, or more than one class");
        }
        Look look = new Look(unit, Trees.instance(task));
        look.scan(unit, null);
        if (look.classes > 12) {
            wrong("11: " + look.classes + " classes");
        }
        for (char sign : Files.readString(Path.of(SOURCE)).toCharArray()) {
            if (sign > 126) {
                wrong("4: a sign above 126");
            }
        }
        for (String method : look.calls.keySet()) {
            int deep = look.depth(method, new LinkedHashSet<>());
            if (deep > 8) {
                wrong("11: " + method + " goes " + deep + " calls deep");
            }
        }
    }

    private static final class Look extends TreePathScanner<Void, Void> {
        private static final Set<Tree.Kind> FORBIDDEN = Set.of(Tree.Kind.LAMBDA_EXPRESSION, Tree.Kind.MEMBER_REFERENCE,
                Tree.Kind.THROW, Tree.Kind.TRY, Tree.Kind.CATCH, Tree.Kind.SYNCHRONIZED, Tree.Kind.ASSERT,
                Tree.Kind.ANNOTATION, Tree.Kind.SWITCH_EXPRESSION);

        private final CompilationUnitTree unit;
        private final Trees trees;
        private final SourcePositions positions;
        private int classes;
        private String method = "";
        private final Map<String, Set<String>> calls = new HashMap<>();

        Look(CompilationUnitTree unit, Trees trees) {
            this.unit = unit;
            this.trees = trees;
            this.positions = trees.getSourcePositions();
        }

        private String at(Tree tree) {
            return "line " + unit.getLineMap().getLineNumber(positions.getStartPosition(unit, tree)) + " ";
        }

        @Override
        public Void scan(Tree tree, Void v) {
            if (tree != null && FORBIDDEN.contains(tree.getKind())) {
                wrong("2, 6, 10: " + at(tree) + tree.getKind());
            }
            return super.scan(tree, v);
        }

        @Override
        public Void visitClass(ClassTree tree, Void v) {
            classes++;
            Set<javax.lang.model.element.Modifier> modifiers = tree.getModifiers().getFlags();
            boolean inside = getCurrentPath().getParentPath().getLeaf() instanceof ClassTree;
            if (inside && !(modifiers.contains(javax.lang.model.element.Modifier.STATIC)
                    && modifiers.contains(javax.lang.model.element.Modifier.PRIVATE))) {
                wrong("2: " + at(tree) + "class " + tree.getSimpleName() + " is not private static");
            }
            int fields = 0;
            for (Tree member : tree.getMembers()) {
                if (member instanceof VariableTree field) {
                    fields += isStatic(field) ? 0 : 1;
                    checkConstant(field);
                } else if (member instanceof BlockTree) {
                    wrong("5: " + at(member) + "an initialiser block");
                }
            }
            if (fields > 20) {
                wrong("11: " + fields + " fields in " + tree.getSimpleName());
            }
            return super.visitClass(tree, v);
        }

        private static boolean isStatic(VariableTree field) {
            return field.getModifiers().getFlags().contains(javax.lang.model.element.Modifier.STATIC);
        }

        private void checkConstant(VariableTree field) {
            if (!isStatic(field)) {
                return;
            }
            String type = field.getType().toString();
            boolean fine = List.of("int", "long", "boolean", "char", "String", "int[]", "long[]", "char[]", "byte[]").contains(type)
                    && field.getModifiers().getFlags().contains(javax.lang.model.element.Modifier.FINAL);
            if (!fine) {
                wrong("5: " + at(field) + "static " + field.getName());
            }
        }

        @Override
        public Void visitVariable(VariableTree tree, Void v) {
            String type = tree.getType() == null ? "var" : tree.getType().toString();
            if (List.of("double", "float", "Object", "var").contains(type)) {
                wrong("3: " + at(tree) + type);
            }
            return super.visitVariable(tree, v);
        }

        @Override
        public Void visitMethod(MethodTree tree, Void v) {
            long first = unit.getLineMap().getLineNumber(positions.getStartPosition(unit, tree));
            long last = unit.getLineMap().getLineNumber(positions.getEndPosition(unit, tree));
            if (last >= first && last - first + 1 > 60) {
                wrong("11: " + at(tree) + tree.getName() + " is long");
            }
            if (tree.getParameters().size() > 7) {
                wrong("11: " + at(tree) + tree.getName() + " has many parameters");
            }
            if (List.of("equals", "hashCode", "toString").contains(tree.getName().toString())) {
                wrong("6: " + at(tree) + tree.getName());
            }
            method = nameOf((ExecutableElement) trees.getElement(getCurrentPath()));
            calls.computeIfAbsent(method, m -> new TreeSet<>());
            super.visitMethod(tree, v);
            method = "";
            return null;
        }

        private static String nameOf(ExecutableElement e) {
            return ((TypeElement) e.getEnclosingElement()).getSimpleName() + "." + e.getSimpleName();
        }

        @Override
        public Void visitMethodInvocation(MethodInvocationTree tree, Void v) {
            Element e = trees.getElement(getCurrentPath());
            String name = nameOf((ExecutableElement) e);
            String owner = ((TypeElement) e.getEnclosingElement()).getQualifiedName().toString();
            if (owner.startsWith("FathomRoom")) {
                calls.computeIfAbsent(method, m -> new TreeSet<>()).add(name);
            } else if (!LIBRARY.contains(name) && !name.equals("Object.<init>")) {
                wrong("4: " + at(tree) + name);
            }
            return super.visitMethodInvocation(tree, v);
        }

        // Stricter than rule 12: rows are made in constructors alone.
        @Override
        public Void visitNewClass(NewClassTree tree, Void v) {
            checkMade(tree);
            if (tree.getClassBody() != null) {
                wrong("2: " + at(tree) + "an anonymous class");
            }
            return super.visitNewClass(tree, v);
        }

        @Override
        public Void visitNewArray(NewArrayTree tree, Void v) {
            checkMade(tree);
            return super.visitNewArray(tree, v);
        }

        private void checkMade(Tree tree) {
            if (!method.isEmpty() && !method.endsWith("<init>")) {
                wrong("12: " + at(tree) + "made in " + method);
            }
        }

        @Override
        public Void visitBinary(BinaryTree tree, Void v) {
            TypeMirror left = trees.getTypeMirror(new TreePath(getCurrentPath(), tree.getLeftOperand()));
            TypeMirror right = trees.getTypeMirror(new TreePath(getCurrentPath(), tree.getRightOperand()));
            boolean text = left.toString().equals("java.lang.String") || right.toString().equals("java.lang.String");
            if (text) {
                wrong("6, 10: " + at(tree) + "texts joined or compared by a sign");
            }
            boolean divides = tree.getKind() == Tree.Kind.DIVIDE || tree.getKind() == Tree.Kind.REMAINDER;
            if (left.getKind() == TypeKind.DOUBLE || divides && isLiteralZero(tree.getRightOperand())) {
                wrong("3, 7: " + at(tree));
            }
            return super.visitBinary(tree, v);
        }

        private static boolean isLiteralZero(Tree tree) {
            return tree instanceof LiteralTree literal && Integer.valueOf(0).equals(literal.getValue());
        }

        @Override
        public Void visitIdentifier(IdentifierTree tree, Void v) {
            Element e = trees.getElement(getCurrentPath());
            if (e != null && e.getKind() == ElementKind.CLASS) {
                String name = ((TypeElement) e).getQualifiedName().toString();
                boolean known = name.startsWith("FathomRoom")
                        || List.of("java.lang.String", "java.lang.Math", "java.lang.Integer", "java.lang.System").contains(name);
                if (!known) {
                    wrong("4: " + at(tree) + name);
                }
            }
            return super.visitIdentifier(tree, v);
        }

        /** How many methods stand open at most from one on; what calls itself counts once. */
        int depth(String from, Set<String> open) {
            if (!open.add(from)) {
                return 0;
            }
            int deepest = 0;
            for (String to : new ArrayList<>(calls.getOrDefault(from, Set.of()))) {
                deepest = Math.max(deepest, depth(to, open));
            }
            open.remove(from);
            return deepest + 1;
        }
    }
}
