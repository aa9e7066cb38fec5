import com.sun.source.tree.*;
import com.sun.source.util.JavacTask;
import com.sun.source.util.TreePath;
import com.sun.source.util.TreePathScanner;
import com.sun.source.util.Trees;
import java.lang.reflect.Member;
import java.lang.reflect.Modifier;
import java.nio.file.Files;
import java.nio.file.Path;
import java.util.ArrayList;
import java.util.Arrays;
import java.util.List;
import java.util.Map;
import java.util.Set;
import java.util.TreeMap;
import java.util.TreeSet;
import java.util.regex.Matcher;
import java.util.regex.Pattern;
import javax.lang.model.element.Element;
import javax.lang.model.element.ElementKind;
import javax.lang.model.element.TypeElement;
import javax.lang.model.type.DeclaredType;
import javax.lang.model.type.TypeMirror;
import javax.tools.JavaCompiler;
import javax.tools.StandardJavaFileManager;
import javax.tools.ToolProvider;

/** The rules of LANGUAGE.md that can be read off the source, and the face of the document. Started at the project's root. */
public final class LanguageTest {
    private static final Path SOURCE = Path.of("src/main/java/HomeGround.java");
    private static final Path DOCUMENT = Path.of("../shared/DOC.md");
    private static final Set<String> LIBRARY = Set.of("java.lang.System.arraycopy", "java.lang.String.length",
        "java.lang.String.charAt", "java.lang.Math.min", "java.lang.Math.max", "java.lang.Math.abs");
    private static final Set<Tree.Kind> RULED_OUT = Set.of(Tree.Kind.THROW, Tree.Kind.TRY, Tree.Kind.CATCH,
        Tree.Kind.SYNCHRONIZED, Tree.Kind.ASSERT, Tree.Kind.LAMBDA_EXPRESSION, Tree.Kind.MEMBER_REFERENCE,
        Tree.Kind.SWITCH_EXPRESSION, Tree.Kind.INSTANCE_OF, Tree.Kind.IMPORT, Tree.Kind.PACKAGE, Tree.Kind.ANNOTATION);

    private static final int MOST_DEEP = 8;

    private static int wrong = 0;
    /** Of each method of the class and of those inside it, which of these it calls. */
    private static final Map<String, Set<String>> CALLS = new TreeMap<>();
    private static final Set<String> WITHOUT_BODY = new TreeSet<>();

    private static void fault(String what) {
        wrong++;
        System.out.println(what);
    }

    public static void main(String[] args) throws Exception {
        face();
        JavaCompiler compiler = ToolProvider.getSystemJavaCompiler();
        StandardJavaFileManager files = compiler.getStandardFileManager(null, null, null);
        JavacTask task = (JavacTask) compiler.getTask(null, files, null, List.of("--release", "17"), null,
            files.getJavaFileObjects(SOURCE));
        Iterable<? extends CompilationUnitTree> units = task.parse();
        task.analyze();
        for (CompilationUnitTree unit : units) {
            new Rules(Trees.instance(task), unit).scan(unit, null);
        }
        depths();
        String source = Files.readString(SOURCE);
        for (int i = 0; i < source.length(); i++) {
            if (source.charAt(i) > 126 || source.charAt(i) < 32 && source.charAt(i) != '\n') {
                fault("sign " + (int) source.charAt(i) + " at " + i);
            }
        }
        System.out.println(wrong == 0 ? "the language is kept" : wrong + " faults of the language");
        System.exit(wrong == 0 ? 0 : 1);
    }

    /** Rule 1: what is public is what the document lists, and nothing else but private. */
    private static void face() throws Exception {
        Set<String> want = new TreeSet<>();
        Matcher lines = Pattern.compile("    public (int|long|boolean) (\\w+)\\((.*?)\\);").matcher(Files.readString(DOCUMENT));
        Set<String> names = new TreeSet<>();
        while (lines.find()) {
            StringBuilder types = new StringBuilder();
            for (String parameter : lines.group(3).split(", ")) {
                types.append(parameter.split(" ")[0]).append(' ');
            }
            want.add(lines.group(1) + " " + lines.group(2) + " " + types);
            names.add(lines.group(2));
        }
        Set<String> have = new TreeSet<>();
        List<Class<?>> classes = new ArrayList<>(Arrays.asList(HomeGround.class.getDeclaredClasses()));
        for (var method : HomeGround.class.getDeclaredMethods()) {
            if (Modifier.isPrivate(method.getModifiers())) {
                if (names.contains(method.getName())) {
                    fault("private but named like a public one: " + method);
                }
                continue;
            }
            StringBuilder types = new StringBuilder();
            for (Class<?> type : method.getParameterTypes()) {
                types.append(type).append(' ');
            }
            have.add(method.getReturnType() + " " + method.getName() + " " + types);
            if (!Modifier.isPublic(method.getModifiers())) {
                fault("neither public nor private: " + method);
            }
        }
        if (want.size() != 46 || !want.equals(have)) {
            fault("the face is " + have + ", the document's is " + want);
        }
        for (var field : HomeGround.class.getDeclaredFields()) {
            if (!field.getName().equals("NONE") && !Modifier.isPrivate(field.getModifiers())) {
                fault("not private: " + field);
            }
        }
        for (Class<?> one : classes) {
            if (!Modifier.isStatic(one.getModifiers()) || Modifier.isPublic(one.getModifiers())) {
                fault("not static or public: " + one);
            }
            for (Member member : one.getDeclaredMethods()) {
                if (names.contains(member.getName())) {
                    fault("inside, but named like a public one: " + member);
                }
            }
        }
        if (classes.size() > 11) {
            fault(classes.size() + " classes inside");
        }
    }

    /** Rules 8 and 11: how deep calls go; none of the class's methods calls itself, by whatever ways. */
    private static void depths() {
        for (String method : CALLS.keySet()) {
            int deep = depth(method, 1);
            if (deep > MOST_DEEP) {
                fault(method + ": calls " + deep + " deep");
            }
        }
        if (depth("HomeGround.text(int,int)", 1) < 6) {
            fault("calls are not followed");
        }
    }

    private static int depth(String method, int deep) {
        int deepest = deep;
        // far beyond the bound there can only be a method that calls itself
        if (deep <= 2 * MOST_DEEP) {
            for (String called : CALLS.getOrDefault(method, Set.of())) {
                deepest = Math.max(deepest, depth(called, WITHOUT_BODY.contains(called) ? deep : deep + 1));
            }
        }
        return deepest;
    }

    private static final class Rules extends TreePathScanner<Void, Void> {
        private final Trees trees;
        private final CompilationUnitTree unit;

        Rules(Trees trees, CompilationUnitTree unit) {
            this.trees = trees;
            this.unit = unit;
        }

        private long line(long position) {
            return unit.getLineMap().getLineNumber(position);
        }

        private long start(Tree tree) {
            return line(trees.getSourcePositions().getStartPosition(unit, tree));
        }

        private long end(Tree tree) {
            return line(trees.getSourcePositions().getEndPosition(unit, tree));
        }

        @Override
        public Void scan(Tree tree, Void nothing) {
            if (tree != null && RULED_OUT.contains(tree.getKind())) {
                fault("line " + start(tree) + ": " + tree.getKind());
            }
            return super.scan(tree, nothing);
        }

        @Override
        public Void visitClass(ClassTree tree, Void nothing) {
            int fields = 0;
            for (Tree member : tree.getMembers()) {
                if (member instanceof VariableTree field) {
                    boolean isStatic = field.getModifiers().getFlags().contains(javax.lang.model.element.Modifier.STATIC);
                    boolean isFinal = field.getModifiers().getFlags().contains(javax.lang.model.element.Modifier.FINAL);
                    fields += isStatic ? 0 : 1;
                    if (isStatic && !isFinal) {
                        fault("static but not final: " + field);
                    }
                } else if (member instanceof BlockTree) {
                    fault("line " + start(member) + ": an initialiser block");
                }
            }
            if (fields > 20) {
                fault(tree.getSimpleName() + " has " + fields + " fields");
            }
            return super.visitClass(tree, nothing);
        }

        private static String name(Element method) {
            return method.getEnclosingElement().getSimpleName() + "." + method;
        }

        private static void calls(String from, String to) {
            CALLS.computeIfAbsent(from, one -> new TreeSet<>()).add(to);
        }

        /** A method of an abstract class stands for all that implement it. */
        private void overrides(Element method) {
            if (((TypeElement) method.getEnclosingElement()).getSuperclass() instanceof DeclaredType above) {
                for (Element inherited : above.asElement().getEnclosedElements()) {
                    if (inherited.getModifiers().contains(javax.lang.model.element.Modifier.ABSTRACT)
                            && inherited.toString().equals(method.toString())) {
                        WITHOUT_BODY.add(name(inherited));
                        calls(name(inherited), name(method));
                    }
                }
            }
        }

        private void enter(Element called) {
            TreePath path = getCurrentPath();
            while (path != null && !(path.getLeaf() instanceof MethodTree)) {
                path = path.getParentPath();
            }
            if (path != null) {
                calls(name(trees.getElement(path)), name(called));
            }
        }

        @Override
        public Void visitNewClass(NewClassTree tree, Void nothing) {
            Element called = trees.getElement(getCurrentPath());
            if (tree.getClassBody() != null || !called.getEnclosingElement().toString().startsWith("HomeGround.")) {
                fault("line " + start(tree) + ": makes no class of its own");
            }
            enter(called);
            return super.visitNewClass(tree, nothing);
        }

        @Override
        public Void visitMethod(MethodTree tree, Void nothing) {
            if (end(tree) - start(tree) >= 60) {
                fault(tree.getName() + " is too long");
            }
            if (tree.getParameters().size() > (tree.getName().contentEquals("note") ? 8 : 7)) {
                fault(tree.getName() + " takes too many parameters");
            }
            overrides(trees.getElement(getCurrentPath()));
            return super.visitMethod(tree, nothing);
        }

        @Override
        public Void visitMethodInvocation(MethodInvocationTree tree, Void nothing) {
            Element called = trees.getElement(new TreePath(getCurrentPath(), tree.getMethodSelect()));
            String owner = called.getEnclosingElement().toString();
            String name = owner + "." + called.getSimpleName();
            boolean own = owner.equals("HomeGround") || owner.startsWith("HomeGround.");
            if (own) {
                enter(called);
            }
            boolean maker = called.getKind() == ElementKind.CONSTRUCTOR && owner.equals("java.lang.Object");
            if (!own && !maker && !LIBRARY.contains(name)) {
                fault("line " + start(tree) + ": " + name);
            }
            return super.visitMethodInvocation(tree, nothing);
        }

        @Override
        public Void visitBinary(BinaryTree tree, Void nothing) {
            if (tree.getKind() == Tree.Kind.PLUS && isText(tree)) {
                fault("line " + start(tree) + ": texts are joined by +");
            }
            return super.visitBinary(tree, nothing);
        }

        private boolean isText(Tree tree) {
            TypeMirror type = trees.getTypeMirror(new TreePath(getCurrentPath(), tree));
            return type != null && type.toString().equals("java.lang.String");
        }

        @Override
        public Void visitWhileLoop(WhileLoopTree tree, Void nothing) {
            if (!tree.getCondition().toString().contains(" < ")) {
                fault("line " + start(tree) + ": a loop without a bound to be seen");
            }
            return super.visitWhileLoop(tree, nothing);
        }

        @Override
        public Void visitForLoop(ForLoopTree tree, Void nothing) {
            if (tree.getCondition() == null || tree.getUpdate().isEmpty()) {
                fault("line " + start(tree) + ": a loop without a bound to be seen");
            }
            return super.visitForLoop(tree, nothing);
        }
    }
}
