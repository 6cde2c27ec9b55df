import com.sun.source.tree.ClassTree;
import com.sun.source.tree.CompilationUnitTree;
import com.sun.source.tree.BinaryTree;
import com.sun.source.tree.MethodInvocationTree;
import com.sun.source.tree.MethodTree;
import com.sun.source.tree.NewClassTree;
import com.sun.source.tree.Tree;
import com.sun.source.tree.VariableTree;
import com.sun.source.util.JavacTask;
import com.sun.source.util.TreePathScanner;
import com.sun.source.util.Trees;
import java.io.File;
import java.util.ArrayList;
import java.util.EnumSet;
import java.util.HashMap;
import java.util.LinkedHashMap;
import java.util.LinkedHashSet;
import java.util.List;
import java.util.Map;
import java.util.Set;
import java.util.TreeSet;
import javax.lang.model.element.Element;
import javax.lang.model.element.ElementKind;
import javax.lang.model.element.Modifier;
import javax.lang.model.type.TypeKind;
import javax.tools.JavaCompiler;
import javax.tools.StandardJavaFileManager;
import javax.tools.ToolProvider;

/** What of ../shared/LANGUAGE.md can be read off the program's tree. */
public final class LanguageTest extends TreePathScanner<Void, Void> {
    private static final String FACE = "LoudHouse feed end house rule person thing storey at beat sing tune walk push undo "
        + "run ahead loop meet carry lifted each beds quiet ear thief nextEar fire rent highest seed drawn count image back";
    private static final Set<Tree.Kind> FORBIDDEN = EnumSet.of(Tree.Kind.THROW, Tree.Kind.TRY, Tree.Kind.CATCH,
        Tree.Kind.SYNCHRONIZED, Tree.Kind.ASSERT, Tree.Kind.LAMBDA_EXPRESSION, Tree.Kind.MEMBER_REFERENCE,
        Tree.Kind.ANNOTATION);
    private static final Set<String> LIBRARY = Set.of("java.lang.String.length", "java.lang.String.charAt",
        "java.lang.String.isEmpty", "java.lang.String.equals", "java.lang.String.indexOf", "java.lang.String.substring",
        "java.lang.String.toCharArray", "java.lang.System.arraycopy", "java.util.Arrays.copyOf",
        "java.util.Arrays.copyOfRange", "java.util.Arrays.fill");
    private static final int MOST_LINES = 60;
    private static final int MOST_PARAMETERS = 7;
    private static final int MOST_FIELDS = 20;
    private static final int MOST_CLASSES = 12;
    private static final int MOST_DEEP = 8;
    private static final int RECURSION = 1;

    private final Trees trees;
    private final CompilationUnitTree unit;
    private final List<String> wrongs = new ArrayList<>();
    private final Set<String> openNames = new TreeSet<>();
    private final Set<String> closedNames = new TreeSet<>();
    private final Map<Element, Set<Element>> calls = new LinkedHashMap<>();
    private final Map<Element, Integer> depths = new HashMap<>();
    private int classes;
    private Element method;

    private LanguageTest(Trees trees, CompilationUnitTree unit) {
        this.trees = trees;
        this.unit = unit;
    }

    public static void main(String[] args) throws Exception {
        JavaCompiler compiler = ToolProvider.getSystemJavaCompiler();
        try (StandardJavaFileManager files = compiler.getStandardFileManager(null, null, null)) {
            File file = new File(args.length > 0 ? args[0] : "src/main/java/LoudHouse.java");
            JavacTask task = (JavacTask) compiler.getTask(null, files, null, List.of("-proc:none"), null,
                files.getJavaFileObjects(file));
            CompilationUnitTree unit = task.parse().iterator().next();
            task.analyze();
            LanguageTest test = new LanguageTest(Trees.instance(task), unit);
            test.look();
            for (String wrong : test.wrongs) {
                System.out.println("  " + wrong);
            }
            System.out.println(test.wrongs.isEmpty() ? "1 passed, 0 failed" : "0 passed, 1 failed");
            System.exit(test.wrongs.isEmpty() ? 0 : 1);
        }
    }

    private void look() {
        scan(unit, null);
        Set<String> face = new TreeSet<>(List.of(FACE.split(" ")));
        face.add("NONE");
        if (!openNames.equals(face)) {
            wrongs.add("rule 1: the face is " + openNames);
        }
        for (String name : closedNames) {
            if (face.contains(name)) {
                wrongs.add("rule 1: a private method bears the name " + name);
            }
        }
        if (classes > MOST_CLASSES) {
            wrongs.add("rule 11: " + classes + " classes");
        }
        for (Element m : calls.keySet()) {
            if (m.getModifiers().contains(Modifier.PUBLIC) && depth(m, new LinkedHashSet<>()) > MOST_DEEP) {
                wrongs.add("rule 11: calls go " + depth(m, new LinkedHashSet<>()) + " deep from " + m);
            }
        }
    }

    /** Of a method, the calls that stand open at its deepest, itself among them; recursion counted once. */
    private int depth(Element from, Set<Element> open) {
        Integer known = depths.get(from);
        if (known != null) {
            return known;
        }
        if (!open.add(from)) {
            return 0;
        }
        int most = 0;
        for (Element to : calls.getOrDefault(from, Set.of())) {
            if (open.contains(to) && to != from) {
                wrongs.add("rule 8: methods that call one another: " + from + ", " + to);
            }
            most = Math.max(most, depth(to, open));
        }
        open.remove(from);
        depths.put(from, most + RECURSION);
        return most + RECURSION;
    }

    private void wrong(Tree tree, String what) {
        long at = trees.getSourcePositions().getStartPosition(unit, tree);
        wrongs.add("line " + unit.getLineMap().getLineNumber(at) + ": " + what);
    }

    @Override
    public Void scan(Tree tree, Void nothing) {
        if (tree != null && FORBIDDEN.contains(tree.getKind())) {
            wrong(tree, "rules 2, 6: " + tree.getKind());
        }
        return super.scan(tree, nothing);
    }

    @Override
    public Void visitClass(ClassTree tree, Void nothing) {
        classes++;
        boolean outer = getCurrentPath().getParentPath().getLeaf() == unit;
        Set<Modifier> how = tree.getModifiers().getFlags();
        boolean isClass = tree.getKind() == Tree.Kind.CLASS;
        if (!outer && (method != null || isClass && !how.contains(Modifier.STATIC) || how.contains(Modifier.PUBLIC)
            || how.contains(Modifier.PROTECTED))) {
            wrong(tree, "rules 1, 2: the class " + tree.getSimpleName());
        }
        int fields = 0;
        for (Tree member : tree.getMembers()) {
            if (member instanceof VariableTree field) {
                fields += field(field, outer) ? 0 : 1;
            }
        }
        if (fields > MOST_FIELDS) {
            wrong(tree, "rule 11: " + fields + " fields in " + tree.getSimpleName());
        }
        return super.visitClass(tree, nothing);
    }

    /** Notes a field; true if it is a constant. */
    private boolean field(VariableTree field, boolean outer) {
        Set<Modifier> how = field.getModifiers().getFlags();
        boolean constant = how.contains(Modifier.STATIC);
        if (constant && !how.contains(Modifier.FINAL)) {
            wrong(field, "rule 5: the static field " + field.getName() + " is not final");
        }
        if (outer && !how.contains(Modifier.PRIVATE)) {
            openNames.add(field.getName().toString());
        }
        return constant;
    }

    @Override
    public Void visitMethod(MethodTree tree, Void nothing) {
        Element me = trees.getElement(getCurrentPath());
        Element owner = me.getEnclosingElement();
        boolean outer = owner.getEnclosingElement().getKind() == ElementKind.PACKAGE;
        String name = me.getKind() == ElementKind.CONSTRUCTOR ? owner.getSimpleName().toString() : tree.getName().toString();
        if (outer && !me.getModifiers().contains(Modifier.PRIVATE)) {
            openNames.add(name);
        } else if (me.getKind() != ElementKind.CONSTRUCTOR) {
            closedNames.add(name);
        }
        if (tree.getParameters().size() > MOST_PARAMETERS) {
            wrong(tree, "rule 11: " + tree.getParameters().size() + " parameters in " + name);
        }
        long lines = lines(tree);
        if (lines > MOST_LINES) {
            wrong(tree, "rule 11: " + lines + " lines in " + name);
        }
        method = me;
        calls.put(me, new LinkedHashSet<>());
        super.visitMethod(tree, nothing);
        method = null;
        return null;
    }

    private long lines(Tree tree) {
        long from = unit.getLineMap().getLineNumber(trees.getSourcePositions().getStartPosition(unit, tree));
        return unit.getLineMap().getLineNumber(trees.getSourcePositions().getEndPosition(unit, tree)) - from + 1;
    }

    @Override
    public Void visitMethodInvocation(MethodInvocationTree tree, Void nothing) {
        called(tree);
        return super.visitMethodInvocation(tree, nothing);
    }

    @Override
    public Void visitNewClass(NewClassTree tree, Void nothing) {
        if (tree.getClassBody() != null) {
            wrong(tree, "rule 2: a class without a name");
        }
        called(tree);
        return super.visitNewClass(tree, nothing);
    }

    private void called(Tree tree) {
        Element to = trees.getElement(trees.getPath(unit, tree));
        if (to == null || method == null) {
            return;
        }
        String owner = to.getEnclosingElement().toString();
        if (owner.startsWith("java.") && to.getKind() == ElementKind.METHOD) {
            boolean number = owner.equals("java.lang.Math") || owner.equals("java.lang.Integer")
                || owner.equals("java.lang.Long");
            String name = owner + "." + to.getSimpleName();
            if (number ? name.endsWith("Exact") : !LIBRARY.contains(name)) {
                wrong(tree, "rule 4: " + name);
            }
        }
        calls.get(method).add(to);
    }

    @Override
    public Void visitBinary(BinaryTree tree, Void nothing) {
        boolean text = trees.getTypeMirror(getCurrentPath()).getKind() == TypeKind.DECLARED;
        if (tree.getKind() == Tree.Kind.PLUS && text) {
            wrong(tree, "rule 10: texts joined by +");
        }
        return super.visitBinary(tree, nothing);
    }
}
