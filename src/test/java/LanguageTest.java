import com.sun.source.tree.AnnotationTree;
import com.sun.source.tree.AssertTree;
import com.sun.source.tree.BlockTree;
import com.sun.source.tree.ClassTree;
import com.sun.source.tree.CompilationUnitTree;
import com.sun.source.tree.ExpressionTree;
import com.sun.source.tree.ImportTree;
import com.sun.source.tree.LambdaExpressionTree;
import com.sun.source.tree.LiteralTree;
import com.sun.source.tree.MemberReferenceTree;
import com.sun.source.tree.MethodInvocationTree;
import com.sun.source.tree.MethodTree;
import com.sun.source.tree.NewClassTree;
import com.sun.source.tree.SynchronizedTree;
import com.sun.source.tree.ThrowTree;
import com.sun.source.tree.Tree;
import com.sun.source.tree.TryTree;
import com.sun.source.tree.VariableTree;
import com.sun.source.util.JavacTask;
import com.sun.source.util.TreePathScanner;
import com.sun.source.util.Trees;
import java.nio.file.Path;
import java.util.ArrayList;
import java.util.HashMap;
import java.util.LinkedHashMap;
import java.util.LinkedHashSet;
import java.util.List;
import java.util.Map;
import java.util.Set;
import java.util.TreeSet;
import javax.lang.model.element.Element;
import javax.lang.model.element.ElementKind;
import javax.lang.model.element.Modifier;
import javax.tools.JavaCompiler;
import javax.tools.StandardJavaFileManager;
import javax.tools.ToolProvider;

/** The rules of LANGUAGE.md that the source itself shows, looked at in the compiler's tree of it. */
public final class LanguageTest {
    private static final Path FILE = Path.of("src/main/java/GuestFrames.java");
    private static final Check CHECK = new Check("LanguageTest");

    private static final Set<String> EXCEPTIONS = Set.of("IllegalStateException", "IllegalArgumentException",
        "IndexOutOfBoundsException", "ArithmeticException", "UnsupportedOperationException", "NoSuchElementException",
        "RuntimeException");
    private static final Set<String> LIBRARY = Set.of("ArrayList.add", "ArrayList.get", "ArrayList.set", "ArrayList.remove",
        "ArrayList.size", "ArrayList.isEmpty", "ArrayList.clear", "System.arraycopy", "Arrays.copyOf", "Arrays.copyOfRange",
        "Arrays.fill", "Math.max", "Math.min", "Math.abs", "Integer.compare", "Long.compare");
    private static final Set<String> CONSTANTS = Set.of("int", "long", "boolean", "char", "java.lang.String");

    private static final int MOST_DEEP = 8;
    private static final int MOST_PARAMETERS = 7;
    private static final int MOST_LINES = 60;
    private static final int MOST_CLASSES = 12;
    private static final int MOST_FIELDS = 20;

    public static void main(String[] args) throws Exception {
        Reader reader = new Reader();
        reader.read();
        CHECK.holds("some methods were read", reader.calls.size() > 100);
        CHECK.holds("rule 11: at most some twelve classes, not " + reader.classes, reader.classes <= MOST_CLASSES);
        depths(reader.calls);
        CHECK.end();
    }

    /** "calls that are no recursion go at most eight deep"; a call of the library is one, too */
    private static void depths(Map<Element, Set<Element>> calls) {
        Map<Element, List<Element>> longest = new HashMap<>();
        for (Element from : calls.keySet()) {
            List<Element> chain = chainFrom(from, calls, longest, new ArrayList<>());
            CHECK.holds("rule 11: at most eight calls deep: " + chain, chain.size() <= MOST_DEEP);
        }
    }

    private static List<Element> chainFrom(Element from, Map<Element, Set<Element>> calls,
            Map<Element, List<Element>> longest, List<Element> open) {
        if (longest.containsKey(from)) return longest.get(from);
        CHECK.holds("no recursion through " + from + " of " + open, !open.contains(from));
        if (open.contains(from)) return List.of();
        open.add(from);
        List<Element> best = List.of();
        for (Element to : calls.getOrDefault(from, Set.of())) {
            List<Element> chain = chainFrom(to, calls, longest, open);
            if (chain.size() > best.size()) best = chain;
        }
        open.remove(open.size() - 1);
        List<Element> whole = new ArrayList<>(List.of(from));
        whole.addAll(best);
        longest.put(from, whole);
        return whole;
    }

    /** Goes over the whole source once; looks at what one place shows, and keeps who calls whom. */
    private static final class Reader extends TreePathScanner<Void, Void> {
        final Map<Element, Set<Element>> calls = new LinkedHashMap<>();
        private final Set<String> publicNames = new TreeSet<>();
        private Trees trees;
        private CompilationUnitTree unit;
        private Element method;
        int classes;

        void read() throws Exception {
            JavaCompiler compiler = ToolProvider.getSystemJavaCompiler();
            try (StandardJavaFileManager files = compiler.getStandardFileManager(null, null, null)) {
                List<String> options = List.of("-proc:none");
                JavacTask task = (JavacTask) compiler.getTask(null, files, null, options, null, files.getJavaFileObjects(FILE));
                trees = Trees.instance(task);
                unit = task.parse().iterator().next();
                task.analyze();
                CHECK.holds("no package line", unit.getPackage() == null);
                CHECK.due("classes beside the public one", unit.getTypeDecls().size(), 1);
                scan(unit, null);
            }
        }

        private Element here() {
            return trees.getElement(getCurrentPath());
        }

        private String where(Tree tree) {
            long at = trees.getSourcePositions().getStartPosition(unit, tree);
            return " in line " + unit.getLineMap().getLineNumber(at);
        }

        private void never(String what, Tree tree) {
            CHECK.holds("none of what is ruled out: " + what + where(tree), false);
        }

        @Override public Void visitImport(ImportTree tree, Void none) {
            String name = tree.getQualifiedIdentifier().toString();
            CHECK.holds("rule 4: import of " + name, Set.of("java.util.ArrayList", "java.util.Arrays").contains(name));
            return super.visitImport(tree, none);
        }

        @Override public Void visitClass(ClassTree tree, Void none) {
            Element type = here();
            classes++;
            boolean isFace = type.getEnclosingElement().getKind() == ElementKind.PACKAGE;
            if (isFace) keepPublicNames(type);
            else CHECK.holds("rules 1, 2: a static class that is not public: " + type, isInside(type.getModifiers()));
            CHECK.holds("rule 6: no exception class of its own: " + type, tree.getExtendsClause() == null);
            int fields = 0;
            for (Tree member : tree.getMembers()) {
                if (member instanceof BlockTree) never("an initialiser block", member);
                boolean isField = member instanceof VariableTree;
                if (isField && !((VariableTree) member).getModifiers().getFlags().contains(Modifier.STATIC)) fields++;
            }
            CHECK.holds("rule 11: some twenty fields in " + type, fields <= MOST_FIELDS);
            return super.visitClass(tree, none);
        }

        private static boolean isInside(Set<Modifier> modifiers) {
            boolean isOpen = modifiers.contains(Modifier.PUBLIC) || modifiers.contains(Modifier.PROTECTED);
            return modifiers.contains(Modifier.STATIC) && !isOpen;
        }

        private void keepPublicNames(Element face) {
            for (Element member : face.getEnclosedElements()) {
                boolean isPublic = member.getModifiers().contains(Modifier.PUBLIC);
                if (isPublic && member.getKind() == ElementKind.METHOD) publicNames.add(member.getSimpleName().toString());
            }
        }

        @Override public Void visitMethod(MethodTree tree, Void none) {
            method = here();
            calls.put(method, new LinkedHashSet<>());
            boolean isPrivate = method.getModifiers().contains(Modifier.PRIVATE);
            CHECK.holds("rule 1: no private method has a public one's name: " + method,
                !isPrivate || !publicNames.contains(tree.getName().toString()));
            CHECK.holds("rule 11: seven parameters: " + method, tree.getParameters().size() <= MOST_PARAMETERS);
            CHECK.holds("rule 11: some sixty lines: " + method, lines(tree) <= MOST_LINES);
            super.visitMethod(tree, none);
            method = null;
            return null;
        }

        private long lines(Tree tree) {
            long from = trees.getSourcePositions().getStartPosition(unit, tree);
            long to = trees.getSourcePositions().getEndPosition(unit, tree);
            // A constructor that is not written has no end.
            return to < 0 ? 0 : unit.getLineMap().getLineNumber(to) - unit.getLineMap().getLineNumber(from) + 1;
        }

        @Override public Void visitVariable(VariableTree tree, Void none) {
            Element variable = here();
            if (variable.getKind() == ElementKind.FIELD && variable.getModifiers().contains(Modifier.STATIC)) {
                CHECK.holds("rule 5: a static field is final: " + variable, variable.getModifiers().contains(Modifier.FINAL));
                CHECK.holds("rule 5: a static field is a constant: " + variable,
                    CONSTANTS.contains(variable.asType().toString()));
            }
            CHECK.holds("rule 3: the type of " + variable + where(tree), isAllowed(variable.asType().toString()));
            return super.visitVariable(tree, none);
        }

        private static boolean isAllowed(String type) {
            String plain = type.endsWith("[]") ? type.substring(0, type.length() - 2) : type;
            return Set.of("int", "long", "byte", "boolean").contains(plain) || plain.startsWith("GuestFrames.")
                || plain.startsWith("java.util.ArrayList<GuestFrames.");
        }

        @Override public Void visitMethodInvocation(MethodInvocationTree tree, Void none) {
            Element called = here();
            // Each constructor begins with a call of Object's that is not written.
            boolean isObjects = called.getEnclosingElement().toString().equals("java.lang.Object");
            if (!isObjects) keepCall(called, tree);
            return super.visitMethodInvocation(tree, none);
        }

        @Override public Void visitNewClass(NewClassTree tree, Void none) {
            if (tree.getClassBody() != null) never("an anonymous class", tree);
            keepCall(here(), tree);
            return super.visitNewClass(tree, none);
        }

        private void keepCall(Element called, Tree tree) {
            Element owner = called.getEnclosingElement();
            String name = owner.getSimpleName() + "." + called.getSimpleName();
            boolean isOwn = owner.toString().startsWith("GuestFrames");
            boolean isMade = called.getKind() == ElementKind.CONSTRUCTOR;
            boolean mayBeMade = owner.getSimpleName().contentEquals("ArrayList")
                || EXCEPTIONS.contains(owner.getSimpleName().toString());
            CHECK.holds("rule 4: a call of " + name + where(tree), isOwn || (isMade ? mayBeMade : LIBRARY.contains(name)));
            CHECK.holds("every call is in a method" + where(tree), method != null || isMade);
            if (method != null) calls.get(method).add(called);
        }

        @Override public Void visitThrow(ThrowTree tree, Void none) {
            CHECK.holds("rule 6: throw new E" + where(tree), tree.getExpression() instanceof NewClassTree);
            if (tree.getExpression() instanceof NewClassTree made) {
                CHECK.holds("rule 6: which exception" + where(tree), EXCEPTIONS.contains(made.getIdentifier().toString()));
                for (ExpressionTree text : made.getArguments()) {
                    CHECK.holds("rule 6: a written text" + where(tree), text instanceof LiteralTree);
                }
            }
            boolean isInFace = method.getModifiers().contains(Modifier.PUBLIC) && method.getKind() == ElementKind.METHOD;
            CHECK.holds("rule 6: only methods of the face throw" + where(tree), isInFace);
            return super.visitThrow(tree, none);
        }

        @Override public Void visitLambdaExpression(LambdaExpressionTree tree, Void none) {
            never("a lambda", tree);
            return super.visitLambdaExpression(tree, none);
        }

        @Override public Void visitMemberReference(MemberReferenceTree tree, Void none) {
            never("a method reference", tree);
            return super.visitMemberReference(tree, none);
        }

        @Override public Void visitTry(TryTree tree, Void none) {
            never("a try, of which the program has no need", tree);
            return super.visitTry(tree, none);
        }

        @Override public Void visitSynchronized(SynchronizedTree tree, Void none) {
            never("synchronized", tree);
            return super.visitSynchronized(tree, none);
        }

        @Override public Void visitAssert(AssertTree tree, Void none) {
            never("assert", tree);
            return super.visitAssert(tree, none);
        }

        @Override public Void visitAnnotation(AnnotationTree tree, Void none) {
            never("an annotation, of which the program has no need", tree);
            return super.visitAnnotation(tree, none);
        }
    }
}
