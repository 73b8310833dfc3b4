import com.sun.source.tree.AssertTree;
import com.sun.source.tree.ClassTree;
import com.sun.source.tree.CompilationUnitTree;
import com.sun.source.tree.LambdaExpressionTree;
import com.sun.source.tree.LineMap;
import com.sun.source.tree.MemberReferenceTree;
import com.sun.source.tree.MethodInvocationTree;
import com.sun.source.tree.MethodTree;
import com.sun.source.tree.NewArrayTree;
import com.sun.source.tree.NewClassTree;
import com.sun.source.tree.SynchronizedTree;
import com.sun.source.tree.ThrowTree;
import com.sun.source.tree.TryTree;
import com.sun.source.tree.VariableTree;
import com.sun.source.util.JavacTask;
import com.sun.source.util.TreePathScanner;
import com.sun.source.util.Trees;
import java.nio.charset.StandardCharsets;
import java.nio.file.Files;
import java.nio.file.Path;
import java.util.ArrayList;
import java.util.Collections;
import java.util.HashMap;
import java.util.HashSet;
import java.util.List;
import java.util.Map;
import java.util.Set;
import java.util.TreeMap;
import java.util.TreeSet;
import java.util.regex.Matcher;
import java.util.regex.Pattern;
import javax.lang.model.element.Element;
import javax.lang.model.element.ElementKind;
import javax.lang.model.element.ExecutableElement;
import javax.lang.model.element.Modifier;
import javax.tools.JavaCompiler;
import javax.tools.StandardJavaFileManager;
import javax.tools.ToolProvider;

/** The rules of ../shared/LANGUAGE.md that can be read off the source, and the face of the document. */
public final class LanguageTest extends TreePathScanner<Void, Void> {
    private static final Path SOURCE = Path.of("src/main/java/LeftGloves.java");
    private static final Path DOCUMENT = Path.of("../shared/DOC.md");
    private static final Set<String> LIBRARY = Set.of(
        "Math.max", "Math.min", "Math.floorMod", "Integer.bitCount", "System.arraycopy", "String.length", "String.charAt");

    private final Trees trees;
    private final CompilationUnitTree unit;
    private final Map<Element, Set<Element>> calls = new HashMap<>();
    private final Set<String> publicNames = new TreeSet<>();
    private final Set<String> otherNames = new TreeSet<>();
    private final Set<String> face = new TreeSet<>();
    private int classes;

    private LanguageTest(Trees trees, CompilationUnitTree unit) {
        this.trees = trees;
        this.unit = unit;
    }

    public static void main(String[] args) throws Exception {
        JavaCompiler compiler = ToolProvider.getSystemJavaCompiler();
        try (StandardJavaFileManager files = compiler.getStandardFileManager(null, null, StandardCharsets.UTF_8)) {
            JavacTask task = (JavacTask) compiler.getTask(
                null, files, null, List.of("-proc:none"), null, files.getJavaFileObjects(SOURCE));
            CompilationUnitTree unit = task.parse().iterator().next();
            task.analyze();
            LanguageTest test = new LanguageTest(Trees.instance(task), unit);
            test.scan(unit, null);
            test.conclude();
        }
        Due.end();
    }

    private void conclude() throws Exception {
        Due.is("no imports, no package", unit.getImports().size() + (unit.getPackageName() == null ? 0 : 1), 0);
        holds("at most twelve classes: " + classes, classes <= 12);
        Set<String> both = new TreeSet<>(publicNames);
        both.retainAll(otherNames);
        holds("no other method bears a public one's name: " + both, both.isEmpty());
        Map<Element, Integer> depths = new HashMap<>();
        Map<String, Integer> deepest = new TreeMap<>();
        for (Element method : calls.keySet()) {
            deepest.put(method.toString(), depth(method, depths, new HashSet<>()));
        }
        System.out.println("calls go " + Collections.max(deepest.values()) + " deep");
        deepest.forEach((method, depth) -> holds(method + " calls at most eight deep: " + depth, depth <= 8));
        Due.is("the face", face.equals(faceOfDocument()) ? 0 : 1, 0);
        String source = Files.readString(SOURCE, StandardCharsets.UTF_8);
        holds("signs 1 to 127", source.chars().allMatch(c -> c > 0 && c < 128));
    }

    private static Set<String> faceOfDocument() throws Exception {
        String document = Files.readString(DOCUMENT, StandardCharsets.UTF_8);
        String block = document.substring(document.indexOf("```java"), document.indexOf("## Terms"));
        Set<String> lines = new TreeSet<>();
        Matcher matcher = Pattern.compile("public ((?:int |long )?)(\\w+)\\((.*)\\);").matcher(block);
        while (matcher.find()) {
            lines.add(matcher.group(1) + matcher.group(2) + "(" + matcher.group(3) + ")");
        }
        return lines;
    }

    private int depth(Element method, Map<Element, Integer> known, Set<Element> open) {
        if (!open.add(method)) {
            holds("no recursion: " + method, false);
            return 99;
        }
        Integer depth = known.get(method);
        if (depth == null) {
            depth = 1;
            for (Element called : calls.getOrDefault(method, Set.of())) {
                depth = Math.max(depth, 1 + depth(called, known, open));
            }
            known.put(method, depth);
        }
        open.remove(method);
        return depth;
    }

    private static void holds(String rule, boolean kept) {
        Due.is(rule, kept ? 1 : 0, 1);
    }

    private void never(String what) {
        holds("no " + what + " in " + getCurrentPath().getLeaf(), false);
    }

    @Override
    public Void visitClass(ClassTree tree, Void none) {
        classes++;
        Element element = trees.getElement(getCurrentPath());
        holds("no class within a method: " + tree.getSimpleName(), element.getEnclosingElement().getKind() != ElementKind.METHOD);
        boolean nested = element.getEnclosingElement().getKind() == ElementKind.CLASS;
        holds("nested is static, outer is public and final: " + tree.getSimpleName(),
            nested ? element.getModifiers().contains(Modifier.STATIC)
                : element.getModifiers().containsAll(Set.of(Modifier.PUBLIC, Modifier.FINAL)));
        long fields = tree.getMembers().stream().filter(m -> m instanceof VariableTree v
            && !v.getModifiers().getFlags().contains(Modifier.STATIC)).count();
        holds("at most twenty fields: " + tree.getSimpleName(), fields <= 20);
        return super.visitClass(tree, none);
    }

    @Override
    public Void visitVariable(VariableTree tree, Void none) {
        Element element = trees.getElement(getCurrentPath());
        if (element.getKind() == ElementKind.FIELD && element.getModifiers().contains(Modifier.STATIC)) {
            holds("static is final: " + tree.getName(), element.getModifiers().contains(Modifier.FINAL));
            holds("static of a simple type: " + tree.getName(),
                Set.of("int", "long", "boolean", "char", "String", "int[]", "long[]", "char[]", "byte[]").contains(tree.getType().toString()));
        }
        if (element.getKind() == ElementKind.FIELD && element.getEnclosingElement().getSimpleName().contentEquals("LeftGloves")) {
            holds("private field: " + tree.getName(), element.getModifiers().contains(Modifier.PRIVATE));
        }
        return super.visitVariable(tree, none);
    }

    @Override
    public Void visitMethod(MethodTree tree, Void none) {
        Element element = trees.getElement(getCurrentPath());
        calls.put(element, new HashSet<>());
        String name = tree.getName().toString();
        boolean outer = element.getEnclosingElement().getSimpleName().contentEquals("LeftGloves");
        if (outer && element.getModifiers().contains(Modifier.PUBLIC)) {
            publicNames.add(name);
            face.add(declared(tree));
        } else if (!name.equals("<init>")) {
            otherNames.add(name);
            holds("private in the outer class: " + name, !outer || element.getModifiers().contains(Modifier.PRIVATE));
        }
        holds("at most seven parameters: " + name, tree.getParameters().size() <= 7);
        LineMap lines = unit.getLineMap();
        long length = lines.getLineNumber(trees.getSourcePositions().getEndPosition(unit, tree))
            - lines.getLineNumber(Math.max(0, trees.getSourcePositions().getStartPosition(unit, tree)));
        holds("some sixty lines: " + name + " has " + length, length <= 60);
        return super.visitMethod(tree, none);
    }

    private static String declared(MethodTree tree) {
        List<String> parameters = new ArrayList<>();
        tree.getParameters().forEach(p -> parameters.add(p.getType() + " " + p.getName()));
        String head = tree.getReturnType() == null ? "LeftGloves" : tree.getReturnType() + " " + tree.getName();
        return head + "(" + String.join(", ", parameters) + ")";
    }

    private Element enclosingMethod() {
        for (var path = getCurrentPath(); path != null; path = path.getParentPath()) {
            if (path.getLeaf() instanceof MethodTree) {
                return trees.getElement(path);
            }
        }
        return null;
    }

    @Override
    public Void visitMethodInvocation(MethodInvocationTree tree, Void none) {
        ExecutableElement called = (ExecutableElement) trees.getElement(getCurrentPath());
        Element owner = called.getEnclosingElement();
        if (owner.toString().startsWith("java.")) {
            String name = owner.getSimpleName() + "." + called.getSimpleName();
            holds("of the library: " + name, LIBRARY.contains(name) || name.equals("Object.<init>"));
        } else {
            calls.get(enclosingMethod()).add(called);
        }
        return super.visitMethodInvocation(tree, none);
    }

    @Override
    public Void visitNewClass(NewClassTree tree, Void none) {
        holds("no anonymous class", tree.getClassBody() == null);
        Element method = enclosingMethod();
        holds("objects are made by constructors alone: " + tree, method != null && method.getKind() == ElementKind.CONSTRUCTOR);
        if (method != null) {
            calls.get(method).add(trees.getElement(getCurrentPath()));
        }
        return super.visitNewClass(tree, none);
    }

    @Override
    public Void visitNewArray(NewArrayTree tree, Void none) {
        Element method = enclosingMethod();
        holds("arrays are made by constructors and constants alone: " + tree,
            method == null || method.getKind() == ElementKind.CONSTRUCTOR);
        return super.visitNewArray(tree, none);
    }

    @Override
    public Void visitThrow(ThrowTree tree, Void none) {
        never("throw");
        return null;
    }

    @Override
    public Void visitTry(TryTree tree, Void none) {
        never("try");
        return null;
    }

    @Override
    public Void visitSynchronized(SynchronizedTree tree, Void none) {
        never("synchronized");
        return null;
    }

    @Override
    public Void visitAssert(AssertTree tree, Void none) {
        never("assert");
        return null;
    }

    @Override
    public Void visitLambdaExpression(LambdaExpressionTree tree, Void none) {
        never("lambda");
        return null;
    }

    @Override
    public Void visitMemberReference(MemberReferenceTree tree, Void none) {
        never("method reference");
        return null;
    }
}
