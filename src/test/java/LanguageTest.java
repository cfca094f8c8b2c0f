import com.sun.source.tree.AssertTree;
import com.sun.source.tree.BinaryTree;
import com.sun.source.tree.BlockTree;
import com.sun.source.tree.CatchTree;
import com.sun.source.tree.ClassTree;
import com.sun.source.tree.CompilationUnitTree;
import com.sun.source.tree.EnhancedForLoopTree;
import com.sun.source.tree.ExpressionTree;
import com.sun.source.tree.LambdaExpressionTree;
import com.sun.source.tree.LiteralTree;
import com.sun.source.tree.MemberReferenceTree;
import com.sun.source.tree.MethodInvocationTree;
import com.sun.source.tree.MethodTree;
import com.sun.source.tree.NewArrayTree;
import com.sun.source.tree.NewClassTree;
import com.sun.source.tree.SynchronizedTree;
import com.sun.source.tree.ThrowTree;
import com.sun.source.tree.Tree;
import com.sun.source.tree.TryTree;
import com.sun.source.tree.TypeCastTree;
import com.sun.source.tree.VariableTree;
import com.sun.source.util.JavacTask;
import com.sun.source.util.TreePathScanner;
import com.sun.source.util.Trees;
import java.io.IOException;
import java.nio.file.Files;
import java.nio.file.Path;
import java.util.HashMap;
import java.util.HashSet;
import java.util.LinkedHashMap;
import java.util.LinkedHashSet;
import java.util.List;
import java.util.Map;
import java.util.Set;
import java.util.regex.Pattern;
import javax.lang.model.element.Element;
import javax.lang.model.element.ElementKind;
import javax.lang.model.element.Modifier;
import javax.lang.model.element.TypeElement;
import javax.lang.model.type.TypeKind;
import javax.tools.JavaCompiler;
import javax.tools.StandardJavaFileManager;
import javax.tools.ToolProvider;

/** The source keeps to LANGUAGE.md, as far as its syntax tree, with the names resolved, shows that. */
public final class LanguageTest {
    private static final Path SOURCE = Path.of("src/main/java/Housestyle.java");
    private static final int CLASSES_MOST = 12;
    private static final int FIELDS_MOST = 20;
    private static final int LINES_MOST = 60;
    private static final int PARAMETERS_MOST = 7;
    private static final int DEEP_MOST = 8;
    private static final Set<String> TYPES = Set.of("int", "long", "short", "byte", "char", "boolean", "double", "float",
            "java.lang.String", "java.lang.StringBuilder", "java.lang.Integer", "java.util.ArrayList", "java.util.List");
    private static final Set<String> EXCEPTIONS = Set.of("java.lang.IllegalStateException",
            "java.lang.IllegalArgumentException", "java.lang.IndexOutOfBoundsException", "java.lang.ArithmeticException",
            "java.lang.UnsupportedOperationException", "java.util.NoSuchElementException", "java.lang.RuntimeException");
    private static final Map<String, Set<String>> LIBRARY = Map.of(
            "java.lang.String", Set.of("length", "charAt", "isEmpty", "equals", "indexOf", "substring", "toCharArray"),
            "java.lang.StringBuilder",
            Set.of("append", "charAt", "setCharAt", "setLength", "deleteCharAt", "reverse", "length", "toString"),
            "java.util.ArrayList", Set.of("add", "get", "set", "remove", "size", "isEmpty", "clear"),
            "java.util.List", Set.of("add", "get", "set", "remove", "size", "isEmpty", "clear"),
            "java.lang.Math", Set.of("max", "min", "abs", "floorDiv", "floorMod"),
            "java.lang.System", Set.of("arraycopy"),
            "java.util.Arrays", Set.of("copyOf", "copyOfRange", "fill"));

    private final Trees trees;
    private final CompilationUnitTree unit;
    private final Map<Element, Set<Element>> calls = new LinkedHashMap<>();
    private final Map<Element, Integer> depths = new HashMap<>();
    private final Set<String> openNames = new HashSet<>();
    private int classes = 0;

    private LanguageTest(Trees trees, CompilationUnitTree unit) {
        this.trees = trees;
        this.unit = unit;
    }

    private static void due(String what, Object got, Object want) {
        Checks.due(what, got, want);
    }

    private static boolean isOwn(Element element) {
        Element owner = element;
        while (owner.getEnclosingElement() instanceof TypeElement outer) {
            owner = outer;
        }
        return owner.getSimpleName().contentEquals("Housestyle");
    }

    private static String nameOf(Element element) {
        return element.getEnclosingElement() + "." + element;
    }

    /** Looks at each part of the source by itself, and writes down which method calls which. */
    private final class Reader extends TreePathScanner<Void, Element> {
        private Element element() {
            return trees.getElement(getCurrentPath());
        }

        @Override
        public Void visitClass(ClassTree tree, Element method) {
            classes++;
            int fields = 0;
            for (Tree member : tree.getMembers()) {
                if (member instanceof VariableTree field && !field.getModifiers().getFlags().contains(Modifier.STATIC)) {
                    fields++;
                }
            }
            due("rule 11: fields of " + tree.getSimpleName(), fields <= FIELDS_MOST, true);
            Set<Modifier> flags = tree.getModifiers().getFlags();
            boolean isOutermost = !(element().getEnclosingElement() instanceof TypeElement);
            due("rules 1 and 2: " + tree.getSimpleName() + " is " + flags,
                    isOutermost ? flags.equals(Set.of(Modifier.PUBLIC, Modifier.FINAL))
                            : flags.contains(Modifier.STATIC) && !flags.contains(Modifier.PUBLIC)
                                    && !flags.contains(Modifier.PROTECTED),
                    true);
            return super.visitClass(tree, method);
        }

        @Override
        public Void visitMethod(MethodTree tree, Element outer) {
            Element method = element();
            calls.computeIfAbsent(method, key -> new LinkedHashSet<>());
            String name = nameOf(method);
            long from = trees.getSourcePositions().getStartPosition(unit, tree);
            long end = trees.getSourcePositions().getEndPosition(unit, tree);
            long lines = unit.getLineMap().getLineNumber(end) - unit.getLineMap().getLineNumber(from) + 1;
            due("rule 11: lines of " + name, lines <= LINES_MOST, true);
            due("rule 11: parameters of " + name, tree.getParameters().size() <= PARAMETERS_MOST, true);
            due("rule 6: a name of Object's, " + name,
                    Set.of("equals", "hashCode", "toString", "finalize").contains(tree.getName().toString()), false);
            boolean isHidden = method.getKind() == ElementKind.METHOD && !method.getModifiers().contains(Modifier.PUBLIC);
            due("rule 1: private with a public name, " + name,
                    isHidden && openNames.contains(tree.getName().toString()), false);
            return super.visitMethod(tree, method);
        }

        @Override
        public Void visitVariable(VariableTree tree, Element method) {
            Element variable = element();
            javax.lang.model.type.TypeMirror type = variable.asType();
            while (type.getKind() == TypeKind.ARRAY) {
                type = ((javax.lang.model.type.ArrayType) type).getComponentType();
            }
            String name = type.toString().replaceAll("<.*", "");
            due("rule 3: the type " + name, TYPES.contains(name) || name.startsWith("Housestyle."), true);
            if (variable.getKind() == ElementKind.FIELD) {
                Set<Modifier> flags = variable.getModifiers();
                due("rule 1: private " + variable, flags.contains(Modifier.PRIVATE), true);
                boolean isStatic = flags.contains(Modifier.STATIC);
                due("rule 5: constant " + variable, !isStatic || flags.contains(Modifier.FINAL)
                        && Set.of("int", "long", "char", "boolean", "java.lang.String").contains(name), true);
            }
            return super.visitVariable(tree, method);
        }

        @Override
        public Void visitMethodInvocation(MethodInvocationTree tree, Element method) {
            Element called = element();
            due("rule 5: called outside of a method, " + called, method != null, true);
            if (isOwn(called)) {
                calls.computeIfAbsent(method, key -> new LinkedHashSet<>()).add(called);
            } else if (called.getKind() != ElementKind.CONSTRUCTOR) {
                String owner = called.getEnclosingElement().toString();
                due("rule 4: " + owner + "." + called.getSimpleName(),
                        LIBRARY.getOrDefault(owner, Set.of()).contains(called.getSimpleName().toString()), true);
                calls.computeIfAbsent(method, key -> new LinkedHashSet<>()).add(called);
            }
            return super.visitMethodInvocation(tree, method);
        }

        @Override
        public Void visitNewClass(NewClassTree tree, Element method) {
            Element made = element();
            String owner = made.getEnclosingElement().toString();
            if (isOwn(made)) {
                calls.computeIfAbsent(method, key -> new LinkedHashSet<>()).add(made);
            } else {
                boolean isThrown = EXCEPTIONS.contains(owner)
                        && getCurrentPath().getParentPath().getLeaf() instanceof ThrowTree;
                due("rule 4: new " + owner, isThrown || TYPES.contains(owner), true);
            }
            due("rule 2: a body of a new " + owner, tree.getClassBody() == null, true);
            return super.visitNewClass(tree, method);
        }

        @Override
        public Void visitThrow(ThrowTree tree, Element method) {
            due("rule 6: a throw in a constructor", method.getKind() == ElementKind.CONSTRUCTOR, false);
            ExpressionTree thrown = tree.getExpression();
            due("rule 6: a new exception is thrown", thrown instanceof NewClassTree, true);
            if (thrown instanceof NewClassTree made) {
                due("rule 6: " + made.getIdentifier(), isException(made), true);
                List<? extends ExpressionTree> arguments = made.getArguments();
                due("rule 6: a written text", arguments.isEmpty()
                        || arguments.size() == 1 && arguments.get(0) instanceof LiteralTree, true);
            }
            return super.visitThrow(tree, method);
        }

        private boolean isException(NewClassTree made) {
            String name = made.getIdentifier().toString();
            return EXCEPTIONS.contains("java.lang." + name) || EXCEPTIONS.contains("java.util." + name);
        }

        @Override
        public Void visitLiteral(LiteralTree tree, Element method) {
            if (tree.getValue() instanceof String text) {
                due("rule 4: the signs of " + text, text.chars().allMatch(sign -> sign >= 1 && sign <= 127), true);
            }
            if (tree.getValue() instanceof Character sign) {
                due("rule 4: the sign " + (int) sign, sign < 128, true);
            }
            return super.visitLiteral(tree, method);
        }

        @Override
        public Void visitBinary(BinaryTree tree, Element method) {
            String kind = String.valueOf(trees.getTypeMirror(getCurrentPath()));
            due("rule 10: joined by +, " + tree, kind.equals("java.lang.String"), false);
            boolean isDivision = tree.getKind() == Tree.Kind.DIVIDE || tree.getKind() == Tree.Kind.REMAINDER;
            due("rule 7: a division of whole numbers, " + tree,
                    isDivision && (kind.equals("int") || kind.equals("long")), false);
            return super.visitBinary(tree, method);
        }

        @Override
        public Void visitTypeCast(TypeCastTree tree, Element method) {
            due("rule 3: a cast to " + tree.getType(), trees.getTypeMirror(getCurrentPath()).getKind().isPrimitive(), true);
            return super.visitTypeCast(tree, method);
        }

        @Override
        public Void visitNewArray(NewArrayTree tree, Element method) {
            due("rule 3: dimensions of " + tree, tree.getDimensions().size() <= 2, true);
            return super.visitNewArray(tree, method);
        }

        @Override
        public Void visitBlock(BlockTree tree, Element method) {
            due("rule 5: a static initialiser", tree.isStatic(), false);
            return super.visitBlock(tree, method);
        }

        private Void forbidden(String what) {
            due("the source has " + what, true, false);
            return null;
        }

        @Override
        public Void visitLambdaExpression(LambdaExpressionTree tree, Element method) {
            return forbidden("a lambda, rule 2");
        }

        @Override
        public Void visitMemberReference(MemberReferenceTree tree, Element method) {
            return forbidden("a method reference, rule 2");
        }

        @Override
        public Void visitSynchronized(SynchronizedTree tree, Element method) {
            return forbidden("synchronized, rule 6");
        }

        @Override
        public Void visitAssert(AssertTree tree, Element method) {
            return forbidden("an assert, rule 6");
        }

        @Override
        public Void visitTry(TryTree tree, Element method) {
            return forbidden("a try, which this class needs nowhere");
        }

        @Override
        public Void visitCatch(CatchTree tree, Element method) {
            return forbidden("a catch, which this class needs nowhere");
        }

        @Override
        public Void visitEnhancedForLoop(EnhancedForLoopTree tree, Element method) {
            return forbidden("a loop that makes an iterator, rule 12");
        }
    }

    /** How many calls stand open at once below a method, itself counted in; a chain that comes back has no end. */
    private int depthOf(Element method, Set<Element> open) {
        Integer known = depths.get(method);
        if (known != null) {
            return known;
        }
        boolean isNew = open.add(method);
        due("rule 8: " + nameOf(method) + " calls itself", isNew, true);
        int below = 0;
        if (isNew) {
            for (Element called : calls.getOrDefault(method, Set.of())) {
                below = Math.max(below, depthOf(called, open));
            }
            open.remove(method);
        }
        depths.put(method, below + 1);
        return below + 1;
    }

    private void look() throws IOException {
        due("rule 1: no package line", unit.getPackage() == null, true);
        due("rule 1: one class", unit.getTypeDecls().size(), 1);
        for (Tree member : ((ClassTree) unit.getTypeDecls().get(0)).getMembers()) {
            if (member instanceof MethodTree method && method.getModifiers().getFlags().contains(Modifier.PUBLIC)) {
                openNames.add(method.getName().toString());
            }
        }
        new Reader().scan(unit, null);
        due("rule 11: at most " + CLASSES_MOST + " classes", classes <= CLASSES_MOST, true);
        due("methods were read", calls.size() > 100, true);
        for (Element method : calls.keySet()) {
            due("rule 11: how deep " + nameOf(method) + " goes", depthOf(method, new HashSet<>()) <= DEEP_MOST, true);
        }
        String code = Files.readString(SOURCE);
        due("rule 4: signs 1 to 127", code.chars().allMatch(sign -> sign >= 1 && sign <= 127), true);
        due("rule 9: a loop without a counter", Pattern.compile("\\bwhile\\b|\\bfor \\(;").matcher(code).find(), false);
    }

    public static void main(String[] args) throws IOException {
        JavaCompiler compiler = ToolProvider.getSystemJavaCompiler();
        try (StandardJavaFileManager files = compiler.getStandardFileManager(null, null, null)) {
            JavacTask task = (JavacTask) compiler.getTask(null, files, null, List.of("-proc:none"), null,
                    files.getJavaFileObjects(SOURCE));
            CompilationUnitTree unit = task.parse().iterator().next();
            task.analyze();
            new LanguageTest(Trees.instance(task), unit).look();
        }
        Checks.end("LanguageTest");
    }
}
