import com.sun.source.tree.BinaryTree;
import com.sun.source.tree.BlockTree;
import com.sun.source.tree.ClassTree;
import com.sun.source.tree.CompilationUnitTree;
import com.sun.source.tree.DoWhileLoopTree;
import com.sun.source.tree.ForLoopTree;
import com.sun.source.tree.LiteralTree;
import com.sun.source.tree.MethodInvocationTree;
import com.sun.source.tree.MethodTree;
import com.sun.source.tree.NewArrayTree;
import com.sun.source.tree.NewClassTree;
import com.sun.source.tree.Tree;
import com.sun.source.tree.TypeCastTree;
import com.sun.source.tree.VariableTree;
import com.sun.source.tree.WhileLoopTree;
import com.sun.source.util.JavacTask;
import com.sun.source.util.TreePath;
import com.sun.source.util.TreePathScanner;
import com.sun.source.util.Trees;
import java.io.IOException;
import java.nio.file.Path;
import java.util.ArrayList;
import java.util.HashMap;
import java.util.HashSet;
import java.util.List;
import java.util.Map;
import java.util.Set;
import java.util.TreeMap;
import java.util.TreeSet;
import javax.lang.model.element.Element;
import javax.lang.model.element.ElementKind;
import javax.lang.model.element.ExecutableElement;
import javax.lang.model.element.Modifier;
import javax.lang.model.element.TypeElement;
import javax.lang.model.type.ArrayType;
import javax.lang.model.type.TypeKind;
import javax.lang.model.type.TypeMirror;
import javax.tools.JavaCompiler;
import javax.tools.StandardJavaFileManager;
import javax.tools.ToolProvider;

/** The rules of LANGUAGE.md that can be seen in the source, read by the compiler's own reader. */
public final class LanguageTest {
    private static final String SOURCE = "src/main/java/FourLorries.java";
    private static final Set<String> TEXTS = Set.of("length", "charAt", "isEmpty", "equals", "indexOf", "substring", "toCharArray");
    private static final Set<String> BUILDERS = Set.of("append", "charAt", "setCharAt", "setLength", "deleteCharAt", "reverse",
        "length", "toString");
    private static final Set<String> LISTS = Set.of("add", "get", "set", "remove", "size", "isEmpty", "clear", "of");
    private static final Set<String> MAKERS = Set.of("camp", "addPart", "<init>");
    private static final Set<String> LIBRARY_TYPES = Set.of("java.lang.String", "java.lang.StringBuilder", "java.lang.Integer");

    private static final Map<Tree.Kind, Integer> RULED_OUT = Map.of(Tree.Kind.LAMBDA_EXPRESSION, 2, Tree.Kind.MEMBER_REFERENCE, 2,
        Tree.Kind.THROW, 6, Tree.Kind.TRY, 6, Tree.Kind.SYNCHRONIZED, 6, Tree.Kind.ASSERT, 6);

    private final Trees trees;
    private final CompilationUnitTree unit;
    private final Map<String, Set<String>> calls = new TreeMap<>();
    private final Map<String, Integer> fields = new TreeMap<>();
    private final List<TypeElement> classes = new ArrayList<>();

    private LanguageTest(Trees trees, CompilationUnitTree unit) {
        this.trees = trees;
        this.unit = unit;
    }

    public static void main(String[] args) throws IOException {
        JavaCompiler compiler = ToolProvider.getSystemJavaCompiler();
        try (StandardJavaFileManager files = compiler.getStandardFileManager(null, null, null)) {
            JavacTask task = (JavacTask) compiler.getTask(null, files, null, List.of("-proc:none"), null,
                files.getJavaFileObjects(Path.of(SOURCE)));
            CompilationUnitTree unit = task.parse().iterator().next();
            task.analyze();
            new LanguageTest(Trees.instance(task), unit).read();
        }
        Check.end("LanguageTest");
    }

    private void read() {
        Check.yes("rule 1, no package line", unit.getPackage() == null);
        Check.due("rule 1, classes beside one another", unit.getTypeDecls().size(), 1);
        new Classes().scan(unit, null);
        new Reader().scan(unit, null);
        Check.yes("rule 11, some twelve classes: " + classes, classes.size() <= 12);
        fields.forEach((name, count) -> Check.yes("rule 11, " + count + " fields of " + name, count <= 20));
        depths();
    }

    private static String told(Element method) {
        return method.getEnclosingElement().getSimpleName() + "." + method;
    }

    private boolean isOwn(Element element) {
        for (Element at = element; at != null; at = at.getEnclosingElement()) {
            if (at.getKind() == ElementKind.CLASS && ((TypeElement) at).getQualifiedName().contentEquals("FourLorries")) {
                return true;
            }
        }
        return false;
    }

    /** Rule 8 and 11: no chain of calls comes back to itself, and none is longer than eight. */
    private void depths() {
        int deepest = 0;
        for (String name : calls.keySet()) {
            deepest = Math.max(deepest, depth(name, new HashSet<>(), new HashMap<>()));
        }
        Check.yes("rule 11, calls go " + deepest + " deep", deepest > 1 && deepest <= 8);
    }

    private int depth(String name, Set<String> open, Map<String, Integer> known) {
        if (known.containsKey(name)) {
            return known.get(name);
        }
        Check.yes("rule 8, a chain of calls that ends: " + name, open.add(name));
        int deepest = 0;
        for (String called : calls.getOrDefault(name, Set.of())) {
            if (!open.contains(called)) {
                deepest = Math.max(deepest, depth(called, open, known));
            } else {
                Check.yes("rule 8, " + name + " calls " + called + " again", false);
            }
        }
        open.remove(name);
        known.put(name, deepest + 1);
        return deepest + 1;
    }

    /** The classes first, as a call may be of a body of any class below. */
    private final class Classes extends TreePathScanner<Void, Void> {
        @Override
        public Void visitClass(ClassTree tree, Void none) {
            Element element = trees.getElement(getCurrentPath());
            Check.yes("rule 2, a class with a name of its own", element instanceof TypeElement && tree.getSimpleName().length() > 0);
            classes.add((TypeElement) element);
            Set<Modifier> modifiers = tree.getModifiers().getFlags();
            Tree.Kind around = getCurrentPath().getParentPath().getLeaf().getKind();
            if (around == Tree.Kind.COMPILATION_UNIT) {
                Check.yes("rule 1, public and final", modifiers.containsAll(Set.of(Modifier.PUBLIC, Modifier.FINAL)));
            } else {
                String name = tree.getSimpleName().toString();
                Check.yes("rule 2, a class inside a class: " + name, around == Tree.Kind.CLASS);
                Check.yes("rule 2, static: " + name, tree.getKind() != Tree.Kind.CLASS || modifiers.contains(Modifier.STATIC));
                Check.yes("rule 1, neither public nor protected: " + name,
                    !modifiers.contains(Modifier.PUBLIC) && !modifiers.contains(Modifier.PROTECTED));
            }
            return super.visitClass(tree, none);
        }
    }

    private final class Reader extends TreePathScanner<Void, Void> {
        private String method = "";
        private Element inside = null;

        @Override
        public Void scan(Tree tree, Void none) {
            if (tree != null && RULED_OUT.containsKey(tree.getKind())) {
                ruledOut(RULED_OUT.get(tree.getKind()), tree);
            }
            return super.scan(tree, none);
        }

        private void ruledOut(int rule, Tree tree) {
            Check.yes("rule " + rule + ", at line " + unit.getLineMap().getLineNumber(start(tree)) + ": " + tree, false);
        }

        private long start(Tree tree) {
            return trees.getSourcePositions().getStartPosition(unit, tree);
        }

        @Override
        public Void visitClass(ClassTree tree, Void none) {
            for (Tree member : tree.getMembers()) {
                if (member instanceof BlockTree) {
                    ruledOut(5, member);
                }
            }
            return super.visitClass(tree, none);
        }

        @Override
        public Void visitMethod(MethodTree tree, Void none) {
            inside = trees.getElement(getCurrentPath());
            method = tree.getName().toString();
            Check.yes("rule 11, parameters of " + told(inside), tree.getParameters().size() <= 7);
            long end = trees.getSourcePositions().getEndPosition(unit, tree);
            long lines = end < 0 ? 0 : unit.getLineMap().getLineNumber(end) - unit.getLineMap().getLineNumber(start(tree)) + 1;
            Check.yes("rule 11, " + lines + " lines of " + told(inside), lines <= 60);
            if (!inside.getEnclosingElement().equals(classes.get(0))) {
                boolean facesName = classes.get(0).getEnclosedElements().stream().anyMatch(other ->
                    other.getKind() == ElementKind.METHOD && other.getModifiers().contains(Modifier.PUBLIC)
                        && other.getSimpleName().contentEquals(method));
                Check.yes("rule 1, no name of the face: " + told(inside), !facesName);
            }
            if (tree.getReturnType() != null) {
                type(trees.getTypeMirror(new TreePath(getCurrentPath(), tree.getReturnType())), told(inside));
            }
            calls.computeIfAbsent(told(inside), key -> new TreeSet<>());
            super.visitMethod(tree, none);
            inside = null;
            method = "";
            return null;
        }

        @Override
        public Void visitVariable(VariableTree tree, Void none) {
            Element element = trees.getElement(getCurrentPath());
            type(element.asType(), tree.getName().toString());
            if (element.getKind() == ElementKind.FIELD) {
                if (element.getModifiers().contains(Modifier.STATIC)) {
                    staticField(element, tree);
                } else {
                    fields.merge(element.getEnclosingElement().getSimpleName().toString(), 1, Integer::sum);
                    Check.yes("rule 1, a private field of the face: " + tree.getName(),
                        !element.getEnclosingElement().equals(classes.get(0)) || element.getModifiers().contains(Modifier.PRIVATE));
                }
            }
            return super.visitVariable(tree, none);
        }

        private void staticField(Element element, VariableTree tree) {
            Check.yes("rule 5, final: " + tree.getName(), element.getModifiers().contains(Modifier.FINAL));
            TypeMirror type = element.asType();
            if (type instanceof ArrayType) {
                Check.yes("rule 5, written out: " + tree.getName(), tree.getInitializer() instanceof NewArrayTree
                    && ((NewArrayTree) tree.getInitializer()).getInitializers() != null);
                Check.yes("rule 5, of a kind: " + type, Set.of("int[]", "long[]", "char[]", "byte[]").contains(type.toString()));
            } else {
                Check.yes("rule 5, of a kind: " + type, Set.of("int", "long", "boolean", "char", "java.lang.String").contains(type.toString()));
            }
        }

        private void type(TypeMirror type, String of) {
            boolean holds;
            if (type.getKind() == TypeKind.ARRAY) {
                TypeMirror element = ((ArrayType) type).getComponentType();
                holds = element.getKind().isPrimitive() || classes.stream().anyMatch(own -> own.asType().toString().equals(element.toString()));
            } else {
                holds = type.getKind().isPrimitive() || type.getKind() == TypeKind.VOID || LIBRARY_TYPES.contains(type.toString())
                    || classes.stream().anyMatch(own -> own.asType().toString().equals(type.toString()));
            }
            Check.yes("rule 3, " + of + " is of type " + type, holds && type.getKind() != TypeKind.DOUBLE && type.getKind() != TypeKind.FLOAT);
        }

        @Override
        public Void visitMethodInvocation(MethodInvocationTree tree, Void none) {
            ExecutableElement called = (ExecutableElement) trees.getElement(getCurrentPath());
            if (isOwn(called)) {
                Set<String> from = calls.get(inside == null ? "" : told(inside));
                Check.yes("rule 12, a call of its own stands in a method: " + tree, from != null);
                boolean above = tree.getMethodSelect().toString().startsWith("super");
                for (TypeElement own : classes) {
                    for (Element body : own.getEnclosedElements()) {
                        boolean mayBe = above ? body.equals(called) : body.toString().equals(called.toString()) && isBelow(own, called.getEnclosingElement());
                        if (mayBe && from != null) {
                            from.add(told(body));
                        }
                    }
                }
                boolean overridden = !above && inside != null && inside.getKind() == ElementKind.CONSTRUCTOR
                    && called.getKind() == ElementKind.METHOD && !called.getModifiers().contains(Modifier.STATIC);
                Check.yes("rule 12, no method of its own in a constructor: " + tree, !overridden);
            } else {
                library(called, tree);
            }
            return super.visitMethodInvocation(tree, none);
        }

        private boolean isBelow(TypeElement own, Element other) {
            for (Element at = own; at != null && isOwn(at); at = classOf(((TypeElement) at).getSuperclass())) {
                if (at.equals(other)) {
                    return true;
                }
            }
            return false;
        }

        private Element classOf(TypeMirror type) {
            return classes.stream().filter(own -> own.asType().toString().equals(type.toString())).findAny().orElse(null);
        }

        private void library(ExecutableElement called, Tree tree) {
            String name = called.getSimpleName().toString();
            boolean holds;
            switch (called.getEnclosingElement().toString()) {
                case "java.lang.Math": case "java.lang.Integer": case "java.lang.Long":
                    holds = called.getModifiers().contains(Modifier.STATIC) && !name.endsWith("Exact");
                    break;
                case "java.lang.System": holds = name.equals("arraycopy"); break;
                case "java.util.Arrays": holds = Set.of("copyOf", "copyOfRange", "fill").contains(name); break;
                case "java.lang.String": holds = TEXTS.contains(name); break;
                case "java.lang.StringBuilder": holds = BUILDERS.contains(name); break;
                case "java.util.ArrayList": case "java.util.List": holds = LISTS.contains(name); break;
                case "java.lang.Object": holds = name.equals("<init>"); break;
                default: holds = name.equals("clone");
            }
            Check.yes("rule 4, of the library: " + tree, holds);
            boolean makes = name.startsWith("copyOf") || name.equals("clone");
            Check.yes("rule 12, rows are made in constructors: " + tree, !makes || MAKERS.contains(method));
        }

        @Override
        public Void visitNewClass(NewClassTree tree, Void none) {
            if (tree.getClassBody() != null) {
                ruledOut(2, tree);
            }
            Element made = trees.getElement(getCurrentPath());
            Check.yes("rule 12, made: " + tree, isOwn(made) && (inside == null || MAKERS.contains(method)));
            if (inside != null) {
                calls.get(told(inside)).add(told(made));
            }
            return super.visitNewClass(tree, none);
        }

        @Override
        public Void visitNewArray(NewArrayTree tree, Void none) {
            Check.yes("rule 12, rows are made in constructors: " + tree, inside == null || method.equals("<init>"));
            return super.visitNewArray(tree, none);
        }

        @Override
        public Void visitBinary(BinaryTree tree, Void none) {
            TypeMirror type = trees.getTypeMirror(getCurrentPath());
            Check.yes("rule 10, no texts joined: " + tree, type.getKind().isPrimitive());
            return super.visitBinary(tree, none);
        }

        @Override
        public Void visitTypeCast(TypeCastTree tree, Void none) {
            Check.yes("rule 6, casts of numbers alone: " + tree, trees.getTypeMirror(getCurrentPath()).getKind().isPrimitive());
            return super.visitTypeCast(tree, none);
        }

        private boolean isAlways(Tree condition) {
            return condition == null || condition.toString().contains("true") || condition instanceof LiteralTree;
        }

        @Override
        public Void visitForLoop(ForLoopTree tree, Void none) {
            Check.yes("rule 9, a loop with an end: " + tree, !isAlways(tree.getCondition()) && !tree.getUpdate().isEmpty());
            return super.visitForLoop(tree, none);
        }

        @Override
        public Void visitWhileLoop(WhileLoopTree tree, Void none) {
            Check.yes("rule 9, a loop with an end: " + tree, !isAlways(tree.getCondition()) && tree.getCondition().toString().contains("<"));
            return super.visitWhileLoop(tree, none);
        }

        @Override
        public Void visitDoWhileLoop(DoWhileLoopTree tree, Void none) {
            Check.yes("rule 9, a loop with an end: " + tree, !isAlways(tree.getCondition()));
            return super.visitDoWhileLoop(tree, none);
        }
    }
}
