import com.sun.source.tree.AssertTree;
import com.sun.source.tree.BinaryTree;
import com.sun.source.tree.ClassTree;
import com.sun.source.tree.CompilationUnitTree;
import com.sun.source.tree.CompoundAssignmentTree;
import com.sun.source.tree.ForLoopTree;
import com.sun.source.tree.ImportTree;
import com.sun.source.tree.LambdaExpressionTree;
import com.sun.source.tree.LiteralTree;
import com.sun.source.tree.MemberReferenceTree;
import com.sun.source.tree.MethodInvocationTree;
import com.sun.source.tree.MethodTree;
import com.sun.source.tree.ModifiersTree;
import com.sun.source.tree.NewArrayTree;
import com.sun.source.tree.NewClassTree;
import com.sun.source.tree.PackageTree;
import com.sun.source.tree.SynchronizedTree;
import com.sun.source.tree.ThrowTree;
import com.sun.source.tree.Tree;
import com.sun.source.tree.TryTree;
import com.sun.source.tree.TypeCastTree;
import com.sun.source.tree.VariableTree;
import com.sun.source.tree.WhileLoopTree;
import com.sun.source.util.JavacTask;
import com.sun.source.util.SourcePositions;
import com.sun.source.util.TreePathScanner;
import com.sun.source.util.Trees;
import java.io.IOException;
import java.util.HashMap;
import java.util.HashSet;
import java.util.List;
import java.util.Map;
import java.util.Set;
import javax.lang.model.element.Element;
import javax.lang.model.element.ElementKind;
import javax.lang.model.element.Modifier;
import javax.lang.model.element.VariableElement;
import javax.lang.model.type.ArrayType;
import javax.lang.model.type.TypeKind;
import javax.lang.model.type.TypeMirror;
import javax.tools.JavaCompiler;
import javax.tools.StandardJavaFileManager;
import javax.tools.ToolProvider;

/**
 * The rules of LANGUAGE.md that can be read off the source of the class, each by its number. It is stricter than the
 * rules where the class needs less: no try, no object or array outside of field initialisers, no recursion.
 */
public final class LanguageTest {
    private static final Check CHECK = new Check("LanguageTest");
    private static final Set<String> IMPORTS = Set.of("java.util.Arrays", "java.util.ArrayList", "java.util.List",
            "java.util.Iterator", "java.util.NoSuchElementException");
    private static final Set<String> LIBRARY = Set.of("String.length", "String.charAt", "String.isEmpty",
            "String.equals", "String.substring", "String.toCharArray", "System.arraycopy", "Arrays.copyOf",
            "Arrays.copyOfRange", "Arrays.fill", "Math.max", "Math.min", "Math.abs", "Math.floorDiv", "Math.floorMod",
            "Integer.bitCount", "Integer.compare", "Integer.numberOfTrailingZeros", "Integer.numberOfLeadingZeros",
            "Long.bitCount", "Long.compare", "Object.<init>");
    private static final Set<String> EXCEPTIONS = Set.of("IllegalStateException", "IllegalArgumentException",
            "IndexOutOfBoundsException", "ArithmeticException", "UnsupportedOperationException",
            "NoSuchElementException", "RuntimeException");
    private static final String FACE = "ScaleInspection";

    private static final int MAX_PARAMETERS = 7;
    private static final int MAX_LINES = 60;
    private static final int MAX_DEPTH = 8;
    private static final int MAX_CLASSES = 12;
    private static final int MAX_FIELDS = 20;

    public static void main(String[] args) throws IOException {
        JavaCompiler compiler = ToolProvider.getSystemJavaCompiler();
        try (StandardJavaFileManager files = compiler.getStandardFileManager(null, null, null)) {
            JavacTask task = (JavacTask) compiler.getTask(null, files, null, List.of("-proc:none"), null,
                    files.getJavaFileObjects(Page.SOURCE));
            for (CompilationUnitTree unit : task.parse()) {
                task.analyze();
                Reader reader = new Reader(Trees.instance(task), unit);
                reader.scan(unit, null);
                reader.finish();
            }
        }
        CHECK.finish();
    }

    private static final class Reader extends TreePathScanner<Void, Void> {
        private final Trees trees;
        private final SourcePositions positions;
        private final CompilationUnitTree unit;
        private final Set<String> face = new HashSet<>();
        private final Map<Element, Set<Element>> calls = new HashMap<>();
        private final Map<Element, Integer> depths = new HashMap<>();
        private final Set<Element> open = new HashSet<>();
        private Element method;
        private int classes;

        Reader(Trees trees, CompilationUnitTree unit) {
            this.trees = trees;
            this.positions = trees.getSourcePositions();
            this.unit = unit;
        }

        private long line(Tree tree) {
            return unit.getLineMap().getLineNumber(positions.getStartPosition(unit, tree));
        }

        private void rule(int number, String what, Tree tree, boolean holds) {
            CHECK.due("rule " + number + ", line " + line(tree) + ": " + what, true, holds);
        }

        private Element element() {
            return trees.getElement(getCurrentPath());
        }

        void finish() {
            CHECK.due("rule 11: at most " + MAX_CLASSES + " classes of " + classes, true, classes <= MAX_CLASSES);
            CHECK.due("rule 1: methods of the face", 50, face.size());
            for (Element caller : Set.copyOf(calls.keySet())) {
                int deep = depth(caller);
                CHECK.due("rule 11: " + caller + " calls " + deep + " deep", true, deep <= MAX_DEPTH);
                boolean hidden = !caller.getModifiers().contains(Modifier.PUBLIC);
                CHECK.due("rule 1: " + caller + " has a name of its own", false,
                        hidden && face.contains(caller.getSimpleName().toString()));
            }
        }

        /** The methods of the longest chain of calls that begins with this one. */
        private int depth(Element caller) {
            if (depths.containsKey(caller)) {
                return depths.get(caller);
            }
            open.add(caller);
            int deepest = 0;
            for (Element called : calls.getOrDefault(caller, Set.of())) {
                boolean again = open.contains(called);
                CHECK.due("rule 8: " + caller + " leads to " + called + " again", false, again);
                deepest = Math.max(deepest, again ? 0 : depth(called));
            }
            open.remove(caller);
            depths.put(caller, deepest + 1);
            return deepest + 1;
        }

        @Override
        public Void visitPackage(PackageTree node, Void none) {
            rule(1, "a package line", node, false);
            return super.visitPackage(node, none);
        }

        @Override
        public Void visitImport(ImportTree node, Void none) {
            rule(4, node.toString(), node, IMPORTS.contains(node.getQualifiedIdentifier().toString()));
            return null;
        }

        @Override
        public Void visitClass(ClassTree node, Void none) {
            classes++;
            Set<Modifier> flags = node.getModifiers().getFlags();
            boolean outer = node.getSimpleName().contentEquals(FACE);
            Set<Modifier> due = outer ? Set.of(Modifier.PUBLIC, Modifier.FINAL)
                    : Set.of(Modifier.PRIVATE, Modifier.STATIC, Modifier.FINAL);
            rule(2, node.getSimpleName() + " is " + flags, node, flags.equals(due));
            long fields = node.getMembers().stream().filter(member -> member instanceof VariableTree
                    && !((VariableTree) member).getModifiers().getFlags().contains(Modifier.STATIC)).count();
            rule(11, node.getSimpleName() + " has " + fields + " fields", node, fields <= MAX_FIELDS);
            return super.visitClass(node, none);
        }

        @Override
        public Void visitModifiers(ModifiersTree node, Void none) {
            rule(6, "synchronized", node, !node.getFlags().contains(Modifier.SYNCHRONIZED));
            rule(3, "an annotation", node, node.getAnnotations().isEmpty());
            return super.visitModifiers(node, none);
        }

        @Override
        public Void visitMethod(MethodTree node, Void none) {
            method = element();
            calls.putIfAbsent(method, new HashSet<>());
            boolean outer = method.getEnclosingElement().getSimpleName().contentEquals(FACE);
            boolean open = node.getModifiers().getFlags().contains(Modifier.PUBLIC);
            boolean constructor = method.getKind() == ElementKind.CONSTRUCTOR;
            if (outer && open && !constructor) {
                face.add(node.getName().toString());
            }
            boolean hidden = node.getModifiers().getFlags().contains(Modifier.PRIVATE);
            rule(1, node.getName() + " is public or private", node, !outer || open || hidden);
            int parameters = node.getParameters().size();
            rule(11, node.getName() + " has " + parameters + " parameters", node, parameters <= MAX_PARAMETERS);
            long end = unit.getLineMap().getLineNumber(positions.getEndPosition(unit, node) - 1);
            long lines = constructor && positions.getEndPosition(unit, node) < 0 ? 0 : end - line(node) + 1;
            rule(11, node.getName() + " has " + lines + " lines", node, lines <= MAX_LINES);
            super.visitMethod(node, none);
            method = null;
            return null;
        }

        @Override
        public Void visitVariable(VariableTree node, Void none) {
            TypeMirror type = trees.getTypeMirror(getCurrentPath());
            rule(3, node.getName() + " is of the type " + type, node, isPlain(type));
            if (element().getKind() == ElementKind.FIELD) {
                Set<Modifier> flags = node.getModifiers().getFlags();
                boolean outer = element().getEnclosingElement().getSimpleName().contentEquals(FACE);
                if (flags.contains(Modifier.STATIC)) {
                    boolean constant = ((VariableElement) element()).getConstantValue() != null;
                    rule(5, node.getName() + " is a final constant", node, flags.contains(Modifier.FINAL) && constant);
                }
                boolean open = flags.contains(Modifier.PUBLIC) && flags.contains(Modifier.STATIC);
                rule(1, node.getName() + " is hidden", node, !outer || open || flags.contains(Modifier.PRIVATE));
            }
            return super.visitVariable(node, none);
        }

        private static boolean isPlain(TypeMirror type) {
            TypeMirror part = type.getKind() == TypeKind.ARRAY ? ((ArrayType) type).getComponentType() : type;
            boolean text = part == type && type.toString().equals("java.lang.String");
            return part.getKind().isPrimitive() || text || part.toString().startsWith(FACE + ".");
        }

        @Override
        public Void visitMethodInvocation(MethodInvocationTree node, Void none) {
            Element called = element();
            Element owner = called.getEnclosingElement();
            if (owner.toString().startsWith(FACE)) {
                rule(11, called + " is called from a method", node, method != null);
                calls.computeIfAbsent(method, caller -> new HashSet<>()).add(called);
            } else {
                String name = owner.getSimpleName() + "." + called.getSimpleName();
                rule(4, name, node, LIBRARY.contains(name));
            }
            return super.visitMethodInvocation(node, none);
        }

        @Override
        public Void visitThrow(ThrowTree node, Void none) {
            boolean made = node.getExpression() instanceof NewClassTree;
            rule(6, "throw of a new exception", node, made);
            rule(6, "throw in a constructor", node, method.getKind() != ElementKind.CONSTRUCTOR);
            if (made) {
                NewClassTree exception = (NewClassTree) node.getExpression();
                rule(6, exception.toString(), node, EXCEPTIONS.contains(exception.getIdentifier().toString()));
                rule(6, "its text", node, exception.getArguments().size() <= 1
                        && exception.getArguments().stream().allMatch(text -> text instanceof LiteralTree));
            }
            return super.visitThrow(node, none);
        }

        @Override
        public Void visitNewClass(NewClassTree node, Void none) {
            boolean thrown = getCurrentPath().getParentPath().getLeaf() instanceof ThrowTree;
            rule(12, node + " in a method", node, method == null || thrown);
            rule(2, node + " has a body", node, node.getClassBody() == null);
            return super.visitNewClass(node, none);
        }

        @Override
        public Void visitNewArray(NewArrayTree node, Void none) {
            rule(12, node + " in a method", node, method == null);
            return super.visitNewArray(node, none);
        }

        @Override
        public Void visitTypeCast(TypeCastTree node, Void none) {
            rule(7, "a cast of numbers", node, trees.getTypeMirror(getCurrentPath()).getKind().isPrimitive());
            return super.visitTypeCast(node, none);
        }

        @Override
        public Void visitBinary(BinaryTree node, Void none) {
            boolean joined = node.getKind() == Tree.Kind.PLUS
                    && !trees.getTypeMirror(getCurrentPath()).getKind().isPrimitive();
            rule(10, "texts joined by +", node, !joined);
            return super.visitBinary(node, none);
        }

        @Override
        public Void visitCompoundAssignment(CompoundAssignmentTree node, Void none) {
            rule(10, "+= of a text", node, trees.getTypeMirror(getCurrentPath()).getKind().isPrimitive());
            return super.visitCompoundAssignment(node, none);
        }

        @Override
        public Void visitLiteral(LiteralTree node, Void none) {
            if (node.getValue() instanceof String) {
                String text = (String) node.getValue();
                rule(4, "signs of \"" + text + "\"", node, text.chars().allMatch(sign -> sign >= 1 && sign <= 127));
            }
            return super.visitLiteral(node, none);
        }

        @Override
        public Void visitWhileLoop(WhileLoopTree node, Void none) {
            rule(9, "while (true)", node, !node.getCondition().toString().equals("(true)"));
            return super.visitWhileLoop(node, none);
        }

        @Override
        public Void visitForLoop(ForLoopTree node, Void none) {
            rule(9, "for (;;)", node, node.getCondition() != null);
            return super.visitForLoop(node, none);
        }

        @Override
        public Void visitLambdaExpression(LambdaExpressionTree node, Void none) {
            rule(2, "a lambda", node, false);
            return super.visitLambdaExpression(node, none);
        }

        @Override
        public Void visitMemberReference(MemberReferenceTree node, Void none) {
            rule(2, "a method reference", node, false);
            return super.visitMemberReference(node, none);
        }

        @Override
        public Void visitTry(TryTree node, Void none) {
            rule(6, "a try", node, false);
            return super.visitTry(node, none);
        }

        @Override
        public Void visitSynchronized(SynchronizedTree node, Void none) {
            rule(6, "synchronized", node, false);
            return super.visitSynchronized(node, none);
        }

        @Override
        public Void visitAssert(AssertTree node, Void none) {
            rule(6, "assert", node, false);
            return super.visitAssert(node, none);
        }
    }
}
