import com.sun.source.tree.*;
import com.sun.source.util.*;
import java.net.URI;
import java.util.ArrayList;
import java.util.List;
import java.util.Map;
import java.util.Set;
import java.util.TreeSet;
import javax.lang.model.element.Element;
import javax.lang.model.element.ElementKind;
import javax.lang.model.element.ExecutableElement;
import javax.lang.model.element.Modifier;
import javax.lang.model.element.TypeElement;
import javax.lang.model.type.ArrayType;
import javax.lang.model.type.DeclaredType;
import javax.lang.model.type.TypeKind;
import javax.lang.model.type.TypeMirror;
import javax.tools.JavaFileObject;
import javax.tools.SimpleJavaFileObject;
import javax.tools.ToolProvider;

/** Looks, tree by tree as the compiler understands them, for what LANGUAGE.md does not allow. */
final class Rules extends TreePathScanner<Void, Void> {
    private static final String OUTER = "PullsToTheLeft";
    private static final int MOST_PARAMETERS = 7, MOST_LINES = 60, MOST_CLASSES = 12, MOST_FIELDS = 20;

    private static final Set<String> IMPORTS = Set.of("java.util.Arrays", "java.util.ArrayList", "java.util.List", "java.util.Iterator");
    private static final Set<String> TYPES = Set.of("java.lang.String", "java.lang.StringBuilder", "java.lang.Integer",
            "java.util.ArrayList", "java.util.List", "java.util.Iterator", "java.lang.Iterable", "java.lang.Comparable");
    private static final Set<String> NUMBERS = Set.of("compare", "max", "min", "abs", "bitCount", "floorDiv", "floorMod",
            "signum", "highestOneBit", "lowestOneBit", "numberOfLeadingZeros", "numberOfTrailingZeros", "reverse", "sum");
    private static final Set<String> LISTS = Set.of("add", "get", "set", "remove", "size", "isEmpty", "clear", "of");
    private static final Map<String, Set<String>> LIBRARY = Map.of(
            "java.lang.String", Set.of("length", "charAt", "isEmpty", "equals", "indexOf", "substring", "toCharArray"),
            "java.lang.StringBuilder", Set.of("append", "charAt", "setCharAt", "setLength", "deleteCharAt", "reverse", "length", "toString"),
            "java.util.ArrayList", LISTS, "java.util.List", LISTS,
            "java.lang.Integer", NUMBERS, "java.lang.Long", NUMBERS, "java.lang.Math", NUMBERS,
            "java.lang.System", Set.of("arraycopy"), "java.util.Arrays", Set.of("copyOf", "copyOfRange", "fill"),
            "Array", Set.of("clone"));

    private final List<String> broken = new ArrayList<>();
    private final Trees trees;
    private final CompilationUnitTree unit;
    private final Calls calls = new Calls();
    private final Set<String> face = new TreeSet<>();
    private int classes;

    private Rules(Trees trees, CompilationUnitTree unit) {
        this.trees = trees;
        this.unit = unit;
    }

    /** What is broken in a source, row by row: "rule 4, line 12: ..". */
    static List<String> broken(String source) throws Exception {
        JavaFileObject file = new SimpleJavaFileObject(URI.create("string:///" + OUTER + ".java"), JavaFileObject.Kind.SOURCE) {
            @Override public CharSequence getCharContent(boolean ignore) {
                return source;
            }
        };
        List<String> wrong = new ArrayList<>();
        JavacTask task = (JavacTask) ToolProvider.getSystemJavaCompiler().getTask(null, null,
                d -> wrong.add(d.toString()), List.of("-proc:none"), null, List.of(file));
        CompilationUnitTree unit = task.parse().iterator().next();
        task.analyze();
        if (!wrong.isEmpty()) return wrong;
        Rules rules = new Rules(Trees.instance(task), unit);
        rules.scan(unit, null);
        rules.broken.addAll(rules.calls.broken());
        return rules.broken;
    }

    // ---- where a tree stands, and what it is

    private void breaks(int rule, Tree tree, String what) {
        long start = trees.getSourcePositions().getStartPosition(unit, tree);
        broken.add("rule " + rule + ", line " + line(start) + ": " + what);
    }

    private void unless(boolean kept, int rule, Tree tree, String what) {
        if (!kept) breaks(rule, tree, what);
    }

    private long line(long position) {
        return position < 0 ? 0 : unit.getLineMap().getLineNumber(position);
    }

    private Tree parent() {
        return getCurrentPath().getParentPath().getLeaf();
    }

    private boolean within(Class<?> tree) {
        for (Tree above : getCurrentPath().getParentPath()) {
            if (tree.isInstance(above)) return true;
        }
        return false;
    }

    private MethodTree method() {
        for (Tree above : getCurrentPath()) {
            if (above instanceof MethodTree) return (MethodTree) above;
        }
        return null;
    }

    private static boolean isConstructor(MethodTree method) {
        return method != null && method.getReturnType() == null;
    }

    private static boolean isOwn(Element e) {
        Element top = e;
        while (top.getEnclosingElement() != null && top.getEnclosingElement().getKind() != ElementKind.PACKAGE) {
            top = top.getEnclosingElement();
        }
        return top.getSimpleName().contentEquals(OUTER);
    }

    private static boolean is(TypeMirror type, String name) {
        return type != null && type.getKind() == TypeKind.DECLARED && type.toString().equals(name);
    }

    private static boolean allowed(TypeMirror type) {
        if (type.getKind() == TypeKind.ARRAY) {
            TypeMirror of = ((ArrayType) type).getComponentType();
            if (of.getKind() == TypeKind.ARRAY) of = ((ArrayType) of).getComponentType();
            else if (of.getKind() == TypeKind.DECLARED) return isOwn(((DeclaredType) of).asElement());
            return of.getKind().isPrimitive();
        }
        if (type.getKind() != TypeKind.DECLARED) return true;
        DeclaredType declared = (DeclaredType) type;
        TypeElement e = (TypeElement) declared.asElement();
        return (isOwn(e) || TYPES.contains(e.getQualifiedName().toString()))
                && declared.getTypeArguments().stream().allMatch(Rules::allowed);
    }

    // ---- rules 1, 2, 11: what stands in the file

    @Override public Void visitImport(ImportTree tree, Void p) {
        String name = tree.getQualifiedIdentifier().toString();
        unless(!tree.isStatic() && IMPORTS.contains(name), 4, tree, "import of " + name);
        return null;
    }

    @Override public Void visitClass(ClassTree tree, Void p) {
        classes++;
        unless(classes <= MOST_CLASSES, 11, tree, "more than " + MOST_CLASSES + " classes");
        Set<Modifier> flags = tree.getModifiers().getFlags();
        if (parent() instanceof CompilationUnitTree) {
            unless(flags.equals(Set.of(Modifier.PUBLIC, Modifier.FINAL)) && tree.getSimpleName().contentEquals(OUTER),
                    1, tree, "not the class of the document, public and final");
            tree.getMembers().forEach(m -> outerMember(m));
        } else {
            unless(parent() instanceof ClassTree, 2, tree, "a local or anonymous class");
            unless(tree.getKind() != Tree.Kind.CLASS || flags.contains(Modifier.STATIC), 2, tree, "an inner class that isn't static");
            unless(!flags.contains(Modifier.PUBLIC) && !flags.contains(Modifier.PROTECTED), 1, tree, "a class for others to see");
        }
        long fields = tree.getMembers().stream().filter(m -> m instanceof VariableTree
                && !((VariableTree) m).getModifiers().getFlags().contains(Modifier.STATIC)).count();
        unless(fields <= MOST_FIELDS, 11, tree, fields + " fields");
        return super.visitClass(tree, p);
    }

    private void outerMember(Tree member) {
        if (member instanceof ClassTree || member instanceof BlockTree) return;
        Set<Modifier> flags = member instanceof MethodTree
                ? ((MethodTree) member).getModifiers().getFlags() : ((VariableTree) member).getModifiers().getFlags();
        unless(flags.contains(Modifier.PUBLIC) || flags.contains(Modifier.PRIVATE), 1, member, "neither of the face nor private");
        if (member instanceof MethodTree && flags.contains(Modifier.PUBLIC)) face.add(((MethodTree) member).getName().toString());
    }

    @Override public Void visitMethod(MethodTree tree, Void p) {
        String name = tree.getName().toString();
        boolean hidden = !tree.getModifiers().getFlags().contains(Modifier.PUBLIC);
        unless(!hidden || isConstructor(tree) || !face.contains(name), 1, tree, name + " bears the name of a public one");
        unless(tree.getParameters().size() <= MOST_PARAMETERS, 11, tree, name + " takes too many parameters");
        SourcePositions places = trees.getSourcePositions();
        long lines = line(places.getEndPosition(unit, tree)) - line(places.getStartPosition(unit, tree)) + 1;
        unless(lines <= MOST_LINES, 11, tree, name + " has " + lines + " lines");
        unless(tree.getThrows().isEmpty(), 6, tree, name + " throws");
        calls.made((ExecutableElement) trees.getElement(getCurrentPath()));
        return super.visitMethod(tree, p);
    }

    @Override public Void visitLambdaExpression(LambdaExpressionTree tree, Void p) {
        breaks(2, tree, "a lambda");
        return null;
    }

    @Override public Void visitMemberReference(MemberReferenceTree tree, Void p) {
        breaks(2, tree, "a method reference");
        return null;
    }

    // ---- rules 3, 5: types and static fields

    @Override public Void visitVariable(VariableTree tree, Void p) {
        Element e = trees.getElement(getCurrentPath());
        unless(allowed(e.asType()), 3, tree, "a " + e.asType());
        if (e.getKind() == ElementKind.FIELD && e.getModifiers().contains(Modifier.STATIC)) staticField(tree, e);
        return super.visitVariable(tree, p);
    }

    private void staticField(VariableTree tree, Element e) {
        String type = e.asType().toString();
        unless(e.getModifiers().contains(Modifier.FINAL), 5, tree, "static and not final");
        if (Set.of("int[]", "long[]", "char[]", "byte[]").contains(type)) {
            unless(tree.getInitializer() instanceof NewArrayTree
                    && ((NewArrayTree) tree.getInitializer()).getInitializers() != null, 5, tree, "a static array that isn't written out");
        } else {
            unless(Set.of("int", "long", "boolean", "char", "java.lang.String").contains(type), 5, tree, "a static " + type);
        }
    }

    @Override public Void visitBlock(BlockTree tree, Void p) {
        unless(!tree.isStatic(), 5, tree, "a static initialiser block");
        return super.visitBlock(tree, p);
    }

    @Override public Void scan(Tree tree, Void p) {
        if (tree instanceof ExpressionTree && !(tree instanceof AnnotationTree)) {
            TreePath path = new TreePath(getCurrentPath(), tree);
            TypeMirror type = trees.getTypeMirror(path);
            Element e = trees.getElement(path);
            boolean names = e != null && (e.getKind().isClass() || e.getKind().isInterface() || e.getKind() == ElementKind.PACKAGE);
            boolean value = type != null && type.getKind() != TypeKind.EXECUTABLE && type.getKind() != TypeKind.PACKAGE;
            if (value && !names && !within(path, ImportTree.class)) unless(allowed(type), 3, tree, "a " + type);
        }
        return super.scan(tree, p);
    }

    private static boolean within(TreePath path, Class<?> tree) {
        for (Tree above : path) {
            if (tree.isInstance(above)) return true;
        }
        return false;
    }

    @Override public Void visitIdentifier(IdentifierTree tree, Void p) {
        Element e = trees.getElement(getCurrentPath());
        if (tree.getName().contentEquals("this") && isConstructor(method())) {
            unless(parent() instanceof MemberSelectTree, 12, tree, "a constructor hands out what it makes");
        }
        if (e != null && e.getKind() == ElementKind.FIELD && e.getModifiers().contains(Modifier.STATIC)
                && e.asType().getKind() == TypeKind.ARRAY) {
            unless(isRead(tree), 5, tree, "a static array that isn't only read");
        }
        return super.visitIdentifier(tree, p);
    }

    private boolean isRead(Tree array) {
        Tree above = parent();
        if (above instanceof MemberSelectTree || above instanceof EnhancedForLoopTree) return true;
        if (!(above instanceof ArrayAccessTree) || ((ArrayAccessTree) above).getExpression() != array) return false;
        Tree use = getCurrentPath().getParentPath().getParentPath().getLeaf();
        if (use instanceof AssignmentTree) return ((AssignmentTree) use).getVariable() != above;
        if (use instanceof UnaryTree) return use.getKind() == Tree.Kind.UNARY_MINUS || use.getKind() == Tree.Kind.BITWISE_COMPLEMENT;
        return !(use instanceof CompoundAssignmentTree) || ((CompoundAssignmentTree) use).getVariable() != above;
    }

    // ---- rules 4, 12: the library, and what is made

    @Override public Void visitMethodInvocation(MethodInvocationTree tree, Void p) {
        ExecutableElement called = (ExecutableElement) trees.getElement(new TreePath(getCurrentPath(), tree.getMethodSelect()));
        if (isOwn(called)) {
            calls.calls(caller(), called, tree.getArguments());
        } else if (called.getKind() != ElementKind.CONSTRUCTOR) {
            String of = ((TypeElement) called.getEnclosingElement()).getQualifiedName().toString();
            String name = called.getSimpleName().toString();
            unless(LIBRARY.getOrDefault(of, Set.of()).contains(name), 4, tree, of + "." + name);
        }
        return super.visitMethodInvocation(tree, p);
    }

    private ExecutableElement caller() {
        for (TreePath above = getCurrentPath(); above != null; above = above.getParentPath()) {
            if (above.getLeaf() instanceof MethodTree) return (ExecutableElement) trees.getElement(above);
        }
        return null;
    }

    @Override public Void visitMemberSelect(MemberSelectTree tree, Void p) {
        Element e = trees.getElement(getCurrentPath());
        boolean field = e != null && (e.getKind() == ElementKind.FIELD || e.getKind() == ElementKind.ENUM_CONSTANT);
        boolean length = tree.getIdentifier().contentEquals("length");
        unless(!field || isOwn(e) || length, 4, tree, "the library's " + tree);
        return super.visitMemberSelect(tree, p);
    }

    @Override public Void visitNewClass(NewClassTree tree, Void p) {
        ExecutableElement made = (ExecutableElement) trees.getElement(getCurrentPath());
        String type = ((TypeElement) made.getEnclosingElement()).getQualifiedName().toString();
        boolean library = type.equals("java.util.ArrayList") || type.equals("java.lang.StringBuilder")
                || type.equals("java.lang.String") && made.getParameters().size() == 1
                && made.getParameters().get(0).asType().toString().equals("char[]");
        unless(isOwn(made) || library, 4, tree, "a new " + type);
        if (isOwn(made)) calls.calls(caller(), made, tree.getArguments());
        maker(tree);
        return super.visitNewClass(tree, p);
    }

    @Override public Void visitNewArray(NewArrayTree tree, Void p) {
        maker(tree);
        return super.visitNewArray(tree, p);
    }

    /** A run may call 512 times: what is made is made with an object, or as a text is read (5 times at most). */
    private void maker(Tree tree) {
        MethodTree in = method();
        unless(in == null || isConstructor(in) || in.getName().contentEquals("text"), 12, tree, "made by " + (in == null ? "" : in.getName()));
    }

    @Override public Void visitLiteral(LiteralTree tree, Void p) {
        if (tree.getValue() instanceof String) {
            boolean plain = ((String) tree.getValue()).chars().allMatch(c -> c >= 1 && c <= 127);
            unless(plain, 4, tree, "a sign beyond 127 in a constant");
        }
        return super.visitLiteral(tree, p);
    }

    // ---- rules 6, 9, 10: statements and signs

    @Override public Void visitThrow(ThrowTree tree, Void p) {
        breaks(6, tree, "throw");
        return null;
    }

    @Override public Void visitTry(TryTree tree, Void p) {
        breaks(6, tree, "try");
        return null;
    }

    @Override public Void visitSynchronized(SynchronizedTree tree, Void p) {
        breaks(6, tree, "synchronized");
        return null;
    }

    @Override public Void visitAssert(AssertTree tree, Void p) {
        breaks(6, tree, "assert");
        return null;
    }

    @Override public Void visitTypeCast(TypeCastTree tree, Void p) {
        TypeMirror to = trees.getTypeMirror(new TreePath(getCurrentPath(), tree.getType()));
        unless(to.getKind().isPrimitive(), 6, tree, "a cast to " + to + ": is it behind its test?");
        return super.visitTypeCast(tree, p);
    }

    @Override public Void visitBinary(BinaryTree tree, Void p) {
        TypeMirror left = trees.getTypeMirror(new TreePath(getCurrentPath(), tree.getLeftOperand()));
        TypeMirror right = trees.getTypeMirror(new TreePath(getCurrentPath(), tree.getRightOperand()));
        boolean same = tree.getKind() == Tree.Kind.EQUAL_TO || tree.getKind() == Tree.Kind.NOT_EQUAL_TO;
        for (String type : new String[] {"java.lang.String", "java.lang.Integer"}) {
            unless(!same || !is(left, type) || !is(right, type), 6, tree, "== between two of " + type);
        }
        boolean joins = tree.getKind() == Tree.Kind.PLUS && (is(left, "java.lang.String") || is(right, "java.lang.String"));
        unless(!joins, 10, tree, "texts joined by +");
        return super.visitBinary(tree, p);
    }

    @Override public Void visitCompoundAssignment(CompoundAssignmentTree tree, Void p) {
        TypeMirror left = trees.getTypeMirror(new TreePath(getCurrentPath(), tree.getVariable()));
        unless(!is(left, "java.lang.String"), 10, tree, "texts joined by +=");
        return super.visitCompoundAssignment(tree, p);
    }

    @Override public Void visitForLoop(ForLoopTree tree, Void p) {
        unless(tree.getCondition() != null, 9, tree, "a for without an end");
        return super.visitForLoop(tree, p);
    }

    @Override public Void visitWhileLoop(WhileLoopTree tree, Void p) {
        endless(tree.getCondition());
        return super.visitWhileLoop(tree, p);
    }

    @Override public Void visitDoWhileLoop(DoWhileLoopTree tree, Void p) {
        endless(tree.getCondition());
        return super.visitDoWhileLoop(tree, p);
    }

    private void endless(ExpressionTree condition) {
        unless(!condition.toString().equals("(true)"), 9, condition, "a while without an end");
    }
}
