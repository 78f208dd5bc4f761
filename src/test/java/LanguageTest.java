import com.sun.source.tree.AnnotationTree;
import com.sun.source.tree.AssertTree;
import com.sun.source.tree.BinaryTree;
import com.sun.source.tree.BlockTree;
import com.sun.source.tree.CatchTree;
import com.sun.source.tree.ClassTree;
import com.sun.source.tree.CompilationUnitTree;
import com.sun.source.tree.CompoundAssignmentTree;
import com.sun.source.tree.DoWhileLoopTree;
import com.sun.source.tree.EnhancedForLoopTree;
import com.sun.source.tree.ForLoopTree;
import com.sun.source.tree.ImportTree;
import com.sun.source.tree.InstanceOfTree;
import com.sun.source.tree.LambdaExpressionTree;
import com.sun.source.tree.LineMap;
import com.sun.source.tree.LiteralTree;
import com.sun.source.tree.MemberReferenceTree;
import com.sun.source.tree.MethodInvocationTree;
import com.sun.source.tree.MethodTree;
import com.sun.source.tree.NewArrayTree;
import com.sun.source.tree.NewClassTree;
import com.sun.source.tree.SynchronizedTree;
import com.sun.source.tree.ThrowTree;
import com.sun.source.tree.Tree;
import com.sun.source.tree.TryTree;
import com.sun.source.tree.TypeCastTree;
import com.sun.source.tree.VariableTree;
import com.sun.source.tree.WhileLoopTree;
import com.sun.source.util.JavacTask;
import com.sun.source.util.SourcePositions;
import com.sun.source.util.TreePath;
import com.sun.source.util.TreePathScanner;
import com.sun.source.util.Trees;
import java.io.File;
import java.util.ArrayList;
import java.util.Arrays;
import java.util.HashMap;
import java.util.HashSet;
import java.util.List;
import java.util.Map;
import java.util.Set;
import java.util.TreeMap;
import java.util.TreeSet;
import javax.lang.model.element.Element;
import javax.lang.model.element.ElementKind;
import javax.lang.model.element.ExecutableElement;
import javax.lang.model.element.Modifier;
import javax.lang.model.element.TypeElement;
import javax.tools.JavaCompiler;
import javax.tools.StandardJavaFileManager;
import javax.tools.ToolProvider;

/** The rules of LANGUAGE.md that can be seen in the source: read by the compiler, then looked at part by part. */
public final class LanguageTest {
    private static final String SOURCE = "src/main/java/AgreedInput.java";
    private static final int MOST_LINES = 60;
    private static final int MOST_DEEP = 8;
    private static final Set<String> NUMBERS = names("int long short byte char boolean double float");
    private static final Set<String> LIBRARY_TYPES = names("java.lang.String java.lang.StringBuilder");
    private static final Set<String> LIBRARY_CALLS = names("String.length String.charAt String.isEmpty String.equals"
        + " String.indexOf String.substring String.toCharArray StringBuilder.append StringBuilder.charAt"
        + " StringBuilder.setCharAt StringBuilder.setLength StringBuilder.deleteCharAt StringBuilder.reverse"
        + " StringBuilder.length StringBuilder.toString Math.max Math.min Math.abs Math.floorMod Math.floorDiv"
        + " System.arraycopy Arrays.copyOf Arrays.copyOfRange Arrays.fill");
    private static final Set<String> EXCEPTIONS = names("IllegalStateException IllegalArgumentException"
        + " IndexOutOfBoundsException ArithmeticException UnsupportedOperationException NoSuchElementException"
        + " RuntimeException");
    /** The one recursion: brackets within one another, which Sentence.readOne refuses beyond the document's limit. */
    private static final Set<String> RECURSION = names("Sentence.readCond Sentence.readAll Sentence.readOne");

    private static final Due due = new Due("LanguageTest");

    private static Set<String> names(String all) {
        return new HashSet<>(Arrays.asList(all.split(" ")));
    }

    /** Goes through the source once, and notes who calls whom. */
    private static final class Reading extends TreePathScanner<Void, Void> {
        final Trees trees;
        final CompilationUnitTree unit;
        final LineMap lines;
        final SourcePositions positions;
        final Map<String, Set<String>> calls = new TreeMap<>();
        int methods;
        int classes;
        int thrown;

        Reading(Trees trees, CompilationUnitTree unit) {
            this.trees = trees;
            this.unit = unit;
            lines = unit.getLineMap();
            positions = trees.getSourcePositions();
        }

        private String at(Tree tree) {
            return "line " + lines.getLineNumber(positions.getStartPosition(unit, tree)) + ": ";
        }

        private void is(Tree tree, String what, boolean holds) {
            due.is(at(tree) + what, holds, true);
        }

        private Element element() {
            return trees.getElement(getCurrentPath());
        }

        private static String owner(Element e) {
            return e.getEnclosingElement().getSimpleName().toString();
        }

        /** The method that a place of the source is in; null of a field's initialiser. */
        private ExecutableElement method() {
            for (TreePath path = getCurrentPath(); path != null; path = path.getParentPath()) {
                if (path.getLeaf() instanceof MethodTree) {
                    return (ExecutableElement) trees.getElement(path);
                }
            }
            return null;
        }

        private static String name(ExecutableElement method) {
            return owner(method) + "." + method.getSimpleName();
        }

        @Override
        public Void visitImport(ImportTree tree, Void none) {
            is(tree, "imports what the document does", tree.getQualifiedIdentifier().toString().equals("java.util.NoSuchElementException"));
            return super.visitImport(tree, none);
        }

        @Override
        public Void visitClass(ClassTree tree, Void none) {
            classes++;
            boolean isOuter = getCurrentPath().getParentPath().getLeaf() instanceof CompilationUnitTree;
            is(tree, "a class of its own inside the class", isOuter || element().getEnclosingElement().getKind() == ElementKind.CLASS);
            for (Tree member : tree.getMembers()) {
                is(member, "no initialiser block", !(member instanceof BlockTree));
            }
            return super.visitClass(tree, none);
        }

        @Override
        public Void visitMethod(MethodTree tree, Void none) {
            methods++;
            String name = tree.getName().toString();
            long first = lines.getLineNumber(positions.getStartPosition(unit, tree));
            long last = lines.getLineNumber(positions.getEndPosition(unit, tree));
            is(tree, name + " is short", last - first < MOST_LINES);
            is(tree, name + " has few parameters", tree.getParameters().size() <= 7);
            is(tree, "no " + name + " of its own", !names("equals hashCode toString finalize").contains(name));
            is(tree, name + " is not synchronized or native", !tree.getModifiers().getFlags().contains(Modifier.SYNCHRONIZED)
                && !tree.getModifiers().getFlags().contains(Modifier.NATIVE));
            calls.putIfAbsent(name(method()), new TreeSet<>());
            return super.visitMethod(tree, none);
        }

        @Override
        public Void visitVariable(VariableTree tree, Void none) {
            String type = trees.getTypeMirror(new TreePath(getCurrentPath(), tree.getType())).toString();
            String one = type.endsWith("[]") ? type.substring(0, type.length() - 2) : type;
            boolean isOwn = one.startsWith("AgreedInput");
            is(tree, "a type of rule 3: " + type, NUMBERS.contains(one) || isOwn || LIBRARY_TYPES.contains(one)
                || one.endsWith("[]") && NUMBERS.contains(one.substring(0, one.length() - 2)));
            Set<Modifier> flags = tree.getModifiers().getFlags();
            if (flags.contains(Modifier.STATIC)) {
                is(tree, tree.getName() + " is a constant", flags.contains(Modifier.FINAL) && tree.getInitializer() != null
                    && ((javax.lang.model.element.VariableElement) element()).getConstantValue() != null);
            }
            return super.visitVariable(tree, none);
        }

        @Override
        public Void visitLiteral(LiteralTree tree, Void none) {
            if (tree.getValue() instanceof String) {
                String text = (String) tree.getValue();
                is(tree, "signs 1 to 127", text.chars().allMatch(c -> c >= 1 && c <= 127));
            }
            return super.visitLiteral(tree, none);
        }

        @Override
        public Void visitMethodInvocation(MethodInvocationTree tree, Void none) {
            ExecutableElement called = (ExecutableElement) element();
            TypeElement type = (TypeElement) called.getEnclosingElement();
            String name = owner(called) + "." + called.getSimpleName();
            boolean isSuper = called.getKind() == ElementKind.CONSTRUCTOR && type.getQualifiedName().contentEquals("java.lang.Object");
            boolean isOwn = type.getQualifiedName().toString().startsWith("AgreedInput");
            is(tree, "a call of its own or of rule 4: " + name, isOwn || isSuper || LIBRARY_CALLS.contains(name));
            if (isOwn) {
                calls.computeIfAbsent(name(method()), k -> new TreeSet<>()).add(name);
                is(tree, "no call of the face from inside: " + name,
                    !owner(called).equals("AgreedInput") || !called.getModifiers().contains(Modifier.PUBLIC));
                boolean inConstructor = method().getKind() == ElementKind.CONSTRUCTOR;
                is(tree, "no call by a constructor", !inConstructor || called.getKind() == ElementKind.CONSTRUCTOR);
            } else if (!isSuper) {
                calls.computeIfAbsent(name(method()), k -> new TreeSet<>()).add(name);
            }
            return super.visitMethodInvocation(tree, none);
        }

        @Override
        public Void visitNewClass(NewClassTree tree, Void none) {
            is(tree, "no anonymous class", tree.getClassBody() == null);
            boolean isThrown = getCurrentPath().getParentPath().getLeaf() instanceof ThrowTree;
            is(tree, "made where the object itself is made, to be used again", isThrown || isMadeOnce());
            return super.visitNewClass(tree, none);
        }

        @Override
        public Void visitNewArray(NewArrayTree tree, Void none) {
            is(tree, "made where the object itself is made, to be used again", isMadeOnce());
            return super.visitNewArray(tree, none);
        }

        private boolean isMadeOnce() {
            ExecutableElement method = method();
            return method == null || method.getKind() == ElementKind.CONSTRUCTOR;
        }

        @Override
        public Void visitThrow(ThrowTree tree, Void none) {
            thrown++;
            boolean isNew = tree.getExpression() instanceof NewClassTree;
            is(tree, "throws what it makes", isNew);
            if (isNew) {
                NewClassTree made = (NewClassTree) tree.getExpression();
                is(tree, "one of rule 6", EXCEPTIONS.contains(made.getIdentifier().toString()));
            }
            String where = method().getSimpleName().toString();
            is(tree, "thrown by a method that the document says", names("value key serial").contains(where));
            return super.visitThrow(tree, none);
        }

        @Override
        public Void visitForLoop(ForLoopTree tree, Void none) {
            is(tree, "a loop with a bound and a step", tree.getCondition() != null && !tree.getUpdate().isEmpty());
            return super.visitForLoop(tree, none);
        }

        @Override
        public Void visitBinary(BinaryTree tree, Void none) {
            if (tree.getKind() == Tree.Kind.PLUS) {
                is(tree, "no texts joined by +", !trees.getTypeMirror(getCurrentPath()).toString().equals("java.lang.String"));
            }
            return super.visitBinary(tree, none);
        }

        @Override
        public Void visitCompoundAssignment(CompoundAssignmentTree tree, Void none) {
            String type = trees.getTypeMirror(new TreePath(getCurrentPath(), tree.getVariable())).toString();
            is(tree, "a number grows", NUMBERS.contains(type));
            return super.visitCompoundAssignment(tree, none);
        }

        @Override
        public Void visitTypeCast(TypeCastTree tree, Void none) {
            is(tree, "a cast of numbers", NUMBERS.contains(tree.getType().toString()));
            return super.visitTypeCast(tree, none);
        }

        private Void never(Tree tree, String what) {
            is(tree, "no " + what, false);
            return null;
        }

        @Override
        public Void visitLambdaExpression(LambdaExpressionTree tree, Void none) {
            return never(tree, "lambda");
        }

        @Override
        public Void visitMemberReference(MemberReferenceTree tree, Void none) {
            return never(tree, "method reference");
        }

        @Override
        public Void visitTry(TryTree tree, Void none) {
            return never(tree, "try, for nothing is thrown inside");
        }

        @Override
        public Void visitCatch(CatchTree tree, Void none) {
            return never(tree, "catch");
        }

        @Override
        public Void visitSynchronized(SynchronizedTree tree, Void none) {
            return never(tree, "synchronized");
        }

        @Override
        public Void visitAssert(AssertTree tree, Void none) {
            return never(tree, "assert");
        }

        @Override
        public Void visitInstanceOf(InstanceOfTree tree, Void none) {
            return never(tree, "instanceof");
        }

        @Override
        public Void visitWhileLoop(WhileLoopTree tree, Void none) {
            return never(tree, "while, for a bound is seen best in a for");
        }

        @Override
        public Void visitDoWhileLoop(DoWhileLoopTree tree, Void none) {
            return never(tree, "do");
        }

        @Override
        public Void visitEnhancedForLoop(EnhancedForLoopTree tree, Void none) {
            return never(tree, "for over what is not a number");
        }

        @Override
        public Void visitAnnotation(AnnotationTree tree, Void none) {
            return never(tree, "annotation");
        }
    }

    /** How deep calls go from each method on; a method of the recursion counts once. */
    private static final class Depths {
        final Map<String, Set<String>> calls;
        final Map<String, Integer> known = new HashMap<>();
        final List<String> open = new ArrayList<>();

        Depths(Map<String, Set<String>> calls) {
            this.calls = calls;
        }

        int of(String method) {
            if (open.contains(method)) {
                due.is(method + " calls itself by " + open, RECURSION.containsAll(open.subList(open.indexOf(method), open.size())), true);
                return 0;
            }
            if (known.containsKey(method) && open.stream().noneMatch(RECURSION::contains)) {
                return known.get(method);
            }
            open.add(method);
            int most = 0;
            for (String next : calls.getOrDefault(method, Set.of())) {
                most = Math.max(most, of(next));
            }
            open.remove(open.size() - 1);
            known.merge(method, most + 1, Math::max);
            return most + 1;
        }
    }

    private static Reading read() throws java.io.IOException {
        JavaCompiler compiler = ToolProvider.getSystemJavaCompiler();
        try (StandardJavaFileManager files = compiler.getStandardFileManager(null, null, null)) {
            JavacTask task = (JavacTask) compiler.getTask(null, files, null, List.of("-proc:none"), null,
                files.getJavaFileObjects(new File(SOURCE)));
            CompilationUnitTree unit = task.parse().iterator().next();
            task.analyze();
            Reading reading = new Reading(Trees.instance(task), unit);
            due.is("no package", unit.getPackage() == null, true);
            due.is("one class on the outside", unit.getTypeDecls().size(), 1);
            reading.scan(unit, null);
            return reading;
        }
    }

    public static void main(String[] args) throws java.io.IOException {
        Reading reading = read();
        due.is("classes: " + reading.classes, reading.classes > 1 && reading.classes <= 12, true);
        due.is("methods were read", reading.methods > 100, true);
        due.is("value(), key(), serial() throw", reading.thrown, 3);
        Depths depths = new Depths(reading.calls);
        int deepest = 0;
        for (String method : reading.calls.keySet()) {
            int deep = depths.of(method);
            due.is(method + " goes " + deep + " deep", deep <= MOST_DEEP, true);
            deepest = Math.max(deepest, deep);
        }
        due.is("calls were followed", deepest > 4, true);
        due.finish();
    }
}
