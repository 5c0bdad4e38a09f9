import com.sun.source.tree.AssertTree;
import com.sun.source.tree.BinaryTree;
import com.sun.source.tree.CatchTree;
import com.sun.source.tree.ClassTree;
import com.sun.source.tree.CompilationUnitTree;
import com.sun.source.tree.DoWhileLoopTree;
import com.sun.source.tree.ExpressionTree;
import com.sun.source.tree.ForLoopTree;
import com.sun.source.tree.ImportTree;
import com.sun.source.tree.LambdaExpressionTree;
import com.sun.source.tree.LiteralTree;
import com.sun.source.tree.MemberReferenceTree;
import com.sun.source.tree.MethodInvocationTree;
import com.sun.source.tree.MethodTree;
import com.sun.source.tree.NewClassTree;
import com.sun.source.tree.SynchronizedTree;
import com.sun.source.tree.ThrowTree;
import com.sun.source.tree.Tree;
import com.sun.source.tree.TryTree;
import com.sun.source.tree.VariableTree;
import com.sun.source.tree.WhileLoopTree;
import com.sun.source.util.JavacTask;
import com.sun.source.util.SourcePositions;
import com.sun.source.util.TreePath;
import com.sun.source.util.TreePathScanner;
import com.sun.source.util.Trees;
import java.io.File;
import java.io.IOException;
import java.util.List;
import java.util.Map;
import java.util.Set;
import java.util.TreeMap;
import java.util.TreeSet;
import java.util.regex.Pattern;
import javax.lang.model.element.Element;
import javax.lang.model.element.Modifier;
import javax.lang.model.element.VariableElement;
import javax.lang.model.type.TypeKind;
import javax.lang.model.type.TypeMirror;
import javax.tools.JavaCompiler;
import javax.tools.StandardJavaFileManager;
import javax.tools.ToolProvider;

/** The program against LANGUAGE.md, as far as its rules can be told from the source alone. */
public final class LanguageTest extends TreePathScanner<Void, Void> {
    private static final int MOST_LINES = 60;
    private static final int MOST_PARAMETERS = 7;
    private static final int MOST_CLASSES = 12;
    private static final int MOST_FIELDS = 20;
    private static final int DEEPEST = 8;

    private static final Set<String> IMPORTS = Set.of("java.util.ArrayList", "java.util.List", "java.util.Arrays",
        "java.util.Iterator", "java.util.NoSuchElementException");
    private static final Set<String> EXCEPTIONS = Set.of("IllegalStateException", "IllegalArgumentException",
        "IndexOutOfBoundsException", "ArithmeticException", "UnsupportedOperationException",
        "NoSuchElementException", "RuntimeException");
    private static final Set<String> CALLS = Set.of(
        "java.lang.String.length", "java.lang.String.charAt", "java.lang.String.isEmpty", "java.lang.String.equals",
        "java.lang.String.indexOf", "java.lang.String.substring", "java.lang.String.toCharArray",
        "java.lang.StringBuilder.append", "java.lang.StringBuilder.charAt", "java.lang.StringBuilder.setCharAt",
        "java.lang.StringBuilder.setLength", "java.lang.StringBuilder.deleteCharAt",
        "java.lang.StringBuilder.reverse", "java.lang.StringBuilder.length", "java.lang.StringBuilder.toString",
        "java.util.ArrayList.add", "java.util.ArrayList.get", "java.util.ArrayList.set",
        "java.util.ArrayList.remove", "java.util.ArrayList.size", "java.util.ArrayList.isEmpty",
        "java.util.ArrayList.clear", "java.util.List.of", "java.util.List.get", "java.util.List.size",
        "java.lang.Math.abs", "java.lang.Math.min", "java.lang.Math.max", "java.lang.Math.floorDiv",
        "java.lang.Math.floorMod", "java.lang.Integer.compare", "java.lang.Integer.min", "java.lang.Integer.max",
        "java.lang.Integer.bitCount", "java.lang.Long.compare", "java.lang.Long.min", "java.lang.Long.max",
        "java.lang.System.arraycopy", "java.util.Arrays.copyOf", "java.util.Arrays.copyOfRange",
        "java.util.Arrays.fill");
    private static final Pattern TYPE = Pattern.compile(
        "(int|long|short|byte|char|boolean|double|float)(\\[\\]){0,2}|FireEngines(\\.\\w+)?(\\[\\])?"
        + "|java\\.lang\\.(String|StringBuilder)"
        + "|java\\.util\\.(ArrayList|List)<(FireEngines\\.\\w+|java\\.lang\\.Integer)>");
    private static final Pattern CONSTANT_TYPE = Pattern.compile(
        "int|long|boolean|char|java\\.lang\\.String|(int|long|char|byte)\\[\\]|FireEngines\\.\\w+(\\[\\])?");
    private static final Set<String> NAMES_OF_OBJECT = Set.of("equals", "hashCode", "toString", "finalize", "clone");

    private final Trees trees;
    private final CompilationUnitTree unit;
    private final Set<String> face = new TreeSet<String>();
    private final Map<String, Set<String>> calls = new TreeMap<String, Set<String>>();
    private String method = "";
    private boolean inConstructor;
    private boolean throwsHere;
    private boolean triesHere;
    private int classes;

    private LanguageTest(Trees trees, CompilationUnitTree unit) {
        this.trees = trees;
        this.unit = unit;
    }

    public static void main(String[] args) throws IOException {
        String file = args.length > 0 ? args[0] : "src/main/java/FireEngines.java";
        JavaCompiler compiler = ToolProvider.getSystemJavaCompiler();
        StandardJavaFileManager files = compiler.getStandardFileManager(null, null, null);
        JavacTask task = (JavacTask) compiler.getTask(null, files, null, List.of("-proc:none"), null,
            files.getJavaFileObjects(new File(file)));
        CompilationUnitTree unit = task.parse().iterator().next();
        task.analyze();
        LanguageTest rules = new LanguageTest(Trees.instance(task), unit);
        rules.readFace();
        rules.scan(unit, null);
        rules.checkWhole();
        Check.end();
    }

    private void fault(Tree tree, String rule) {
        long line = unit.getLineMap().getLineNumber(trees.getSourcePositions().getStartPosition(unit, tree));
        Check.fault("line " + line + ": " + rule);
    }

    private Element elementOf(Tree tree) {
        return trees.getElement(new TreePath(getCurrentPath(), tree));
    }

    private String typeOf(Tree tree) {
        TypeMirror type = trees.getTypeMirror(new TreePath(getCurrentPath(), tree));
        return type == null ? "" : type.toString();
    }

    private void readFace() {
        for (Tree type : unit.getTypeDecls()) {
            for (Tree member : ((ClassTree) type).getMembers()) {
                if (member instanceof MethodTree) {
                    MethodTree found = (MethodTree) member;
                    if (found.getModifiers().getFlags().contains(Modifier.PUBLIC)) {
                        face.add(found.getName().toString());
                    }
                }
            }
        }
    }

    private void checkWhole() {
        Check.same("rule 2: classes of the file", unit.getTypeDecls().size(), 1);
        Check.same("rule 2: no package", unit.getPackage() == null, true);
        Check.same("rule 11: some twelve classes", classes <= MOST_CLASSES, true);
        for (String name : calls.keySet()) {
            int depth = depthOf(name, new TreeSet<String>());
            if (depth > DEEPEST) {
                Check.fault("rule 11: calls go " + depth + " deep from " + name);
            }
        }
    }

    /** How many calls stand open at once from this method on, itself counted; the program has no recursion. */
    private int depthOf(String name, Set<String> open) {
        if (!open.add(name)) {
            Check.fault("rule 8: recursion by " + name);
            return 0;
        }
        int deepest = 0;
        for (String called : calls.getOrDefault(name, Set.of())) {
            deepest = Math.max(deepest, depthOf(called, open));
        }
        open.remove(name);
        return deepest + 1;
    }

    @Override
    public Void visitImport(ImportTree tree, Void none) {
        if (tree.isStatic() || !IMPORTS.contains(tree.getQualifiedIdentifier().toString())) {
            fault(tree, "rule 4: import " + tree.getQualifiedIdentifier());
        }
        return null;
    }

    @Override
    public Void visitClass(ClassTree tree, Void none) {
        classes++;
        boolean outer = unit.getTypeDecls().contains(tree);
        Set<Modifier> flags = tree.getModifiers().getFlags();
        if (outer && !flags.equals(Set.of(Modifier.PUBLIC, Modifier.FINAL))) {
            fault(tree, "rule 1: the class is not public and final");
        }
        if (!outer && (flags.contains(Modifier.PUBLIC) || flags.contains(Modifier.PROTECTED))) {
            fault(tree, "rule 1: a class inside is public or protected");
        }
        if (!outer && tree.getKind() == Tree.Kind.CLASS && !flags.contains(Modifier.STATIC)) {
            fault(tree, "rule 2: a class inside is not static");
        }
        int fields = 0;
        for (Tree member : tree.getMembers()) {
            if (member instanceof VariableTree) {
                fields += checkField((VariableTree) member, outer);
            } else if (member.getKind() == Tree.Kind.BLOCK) {
                fault(member, "rule 5: an initialiser block");
            }
        }
        if (fields > MOST_FIELDS) {
            fault(tree, "rule 11: a class with " + fields + " fields");
        }
        return super.visitClass(tree, none);
    }

    /** Counts a field beside the constants. */
    private int checkField(VariableTree field, boolean outer) {
        Set<Modifier> flags = field.getModifiers().getFlags();
        if (outer && !flags.contains(Modifier.PRIVATE)) {
            fault(field, "rule 1: a field that is not private: " + field.getName());
        }
        if (!flags.contains(Modifier.STATIC)) {
            return 1;
        }
        String type = trees.getTypeMirror(TreePath.getPath(unit, field)).toString();
        if (!flags.contains(Modifier.FINAL) || !CONSTANT_TYPE.matcher(type).matches()) {
            fault(field, "rule 5: a static field " + field.getName() + " of " + type);
        }
        return 0;
    }

    @Override
    public Void visitVariable(VariableTree tree, Void none) {
        TypeMirror type = trees.getTypeMirror(getCurrentPath());
        if (type != null && !inCatch() && !TYPE.matcher(type.toString()).matches()) {
            fault(tree, "rule 3: a variable of " + type);
        }
        return super.visitVariable(tree, none);
    }

    private boolean inCatch() {
        return getCurrentPath().getParentPath().getLeaf() instanceof CatchTree;
    }

    @Override
    public Void visitMethod(MethodTree tree, Void none) {
        Element element = trees.getElement(getCurrentPath());
        String owner = element.getEnclosingElement().toString();
        method = owner + "." + tree.getName();
        if (calls.containsKey(method)) {
            fault(tree, "two methods of one name, which the depth of calls is not counted for: " + method);
        }
        calls.put(method, new TreeSet<String>());
        inConstructor = tree.getName().contentEquals("<init>");
        throwsHere = false;
        triesHere = false;
        checkName(tree, owner.equals("FireEngines"));
        if (tree.getParameters().size() > MOST_PARAMETERS) {
            fault(tree, "rule 11: a method of more than seven parameters: " + method);
        }
        checkLength(tree);
        super.visitMethod(tree, none);
        if (throwsHere && triesHere) {
            fault(tree, "rule 6: a try in the method that throws: " + method);
        }
        return null;
    }

    private void checkName(MethodTree tree, boolean outer) {
        String name = tree.getName().toString();
        Set<Modifier> flags = tree.getModifiers().getFlags();
        if (outer && !flags.contains(Modifier.PUBLIC) && !flags.contains(Modifier.PRIVATE)) {
            fault(tree, "rule 1: a member that is neither public nor private: " + method);
        }
        boolean named = !name.equals("<init>") && face.contains(name);
        if (named && (!outer || flags.contains(Modifier.PRIVATE))) {
            fault(tree, "rule 1: a name of a public method: " + method);
        }
        if (NAMES_OF_OBJECT.contains(name)) {
            fault(tree, "rule 6: " + method);
        }
        if (flags.contains(Modifier.SYNCHRONIZED) || flags.contains(Modifier.NATIVE)) {
            fault(tree, "rule 6: " + method);
        }
    }

    private void checkLength(MethodTree tree) {
        SourcePositions positions = trees.getSourcePositions();
        long end = positions.getEndPosition(unit, tree);
        if (end < 0) {
            return;
        }
        long lines = unit.getLineMap().getLineNumber(end)
            - unit.getLineMap().getLineNumber(positions.getStartPosition(unit, tree)) + 1;
        if (lines > MOST_LINES) {
            fault(tree, "rule 11: a method of " + lines + " lines: " + method);
        }
    }

    @Override
    public Void visitMethodInvocation(MethodInvocationTree tree, Void none) {
        Element called = trees.getElement(getCurrentPath());
        String owner = called.getEnclosingElement().toString().replaceAll("<.*>", "");
        String name = owner + "." + called.getSimpleName();
        boolean ofObject = inConstructor && name.equals("java.lang.Object.<init>");
        if (owner.startsWith("FireEngines")) {
            calls.get(method).add(name);
        } else if (!CALLS.contains(name) && !ofObject) {
            fault(tree, "rule 4: a call of " + name);
        }
        for (ExpressionTree argument : tree.getArguments()) {
            if (owner.equals("java.lang.Math") && typeOf(argument).matches("double|float")) {
                fault(tree, "rule 3: Math on doubles");
            }
        }
        return super.visitMethodInvocation(tree, none);
    }

    @Override
    public Void visitNewClass(NewClassTree tree, Void none) {
        String type = typeOf(tree);
        boolean thrown = getCurrentPath().getParentPath().getLeaf() instanceof ThrowTree;
        if (type.startsWith("FireEngines")) {
            calls.computeIfAbsent(method, key -> new TreeSet<String>()).add(type + ".<init>");
        } else if (!thrown && !TYPE.matcher(type).matches()) {
            fault(tree, "rule 4: new " + type);
        }
        return super.visitNewClass(tree, none);
    }

    @Override
    public Void visitThrow(ThrowTree tree, Void none) {
        throwsHere = true;
        boolean fits = tree.getExpression() instanceof NewClassTree;
        if (fits) {
            NewClassTree made = (NewClassTree) tree.getExpression();
            fits = EXCEPTIONS.contains(made.getIdentifier().toString()) && made.getArguments().size() <= 1;
            for (ExpressionTree argument : made.getArguments()) {
                fits = fits && argument.getKind() == Tree.Kind.STRING_LITERAL;
            }
        }
        if (!fits || inConstructor) {
            fault(tree, "rule 6: " + tree);
        }
        return super.visitThrow(tree, none);
    }

    @Override
    public Void visitTry(TryTree tree, Void none) {
        triesHere = true;
        if (tree.getFinallyBlock() != null || !tree.getResources().isEmpty()) {
            fault(tree, "rule 6: finally or resources");
        }
        for (CatchTree caught : tree.getCatches()) {
            for (String type : caught.getParameter().getType().toString().split("\\|")) {
                if (!EXCEPTIONS.contains(type.trim())) {
                    fault(caught, "rule 6: a catch of " + type);
                }
            }
        }
        return super.visitTry(tree, none);
    }

    @Override
    public Void visitBinary(BinaryTree tree, Void none) {
        Tree.Kind kind = tree.getKind();
        String left = typeOf(tree.getLeftOperand());
        String right = typeOf(tree.getRightOperand());
        if (kind == Tree.Kind.PLUS && typeOf(tree).equals("java.lang.String")) {
            fault(tree, "rule 10: texts joined by +");
        }
        boolean same = kind == Tree.Kind.EQUAL_TO || kind == Tree.Kind.NOT_EQUAL_TO;
        if (same && left.equals(right) && left.matches("java\\.lang\\.(String|Integer)")) {
            fault(tree, "rule 6: == between texts or Integers");
        }
        boolean divides = kind == Tree.Kind.DIVIDE || kind == Tree.Kind.REMAINDER;
        boolean whole = trees.getTypeMirror(getCurrentPath()).getKind() != TypeKind.DOUBLE;
        if (divides && whole && !isConstantButNotZero(tree.getRightOperand())) {
            fault(tree, "rule 7: a divisor that may be 0: " + tree);
        }
        if (kind == Tree.Kind.REMAINDER && !whole) {
            fault(tree, "rule 3: % on doubles");
        }
        return super.visitBinary(tree, none);
    }

    private boolean isConstantButNotZero(ExpressionTree divisor) {
        Object value = null;
        if (divisor instanceof LiteralTree) {
            value = ((LiteralTree) divisor).getValue();
        } else if (elementOf(divisor) instanceof VariableElement) {
            value = ((VariableElement) elementOf(divisor)).getConstantValue();
        }
        return value instanceof Number && ((Number) value).longValue() != 0;
    }

    @Override
    public Void visitLiteral(LiteralTree tree, Void none) {
        if (tree.getValue() instanceof String) {
            for (char sign : ((String) tree.getValue()).toCharArray()) {
                if (sign < 1 || sign > 127) {
                    fault(tree, "rule 4: a sign of a text");
                }
            }
        }
        return super.visitLiteral(tree, none);
    }

    @Override
    public Void visitForLoop(ForLoopTree tree, Void none) {
        if (tree.getCondition() == null) {
            fault(tree, "rule 9: a loop without an end");
        }
        return super.visitForLoop(tree, none);
    }

    @Override
    public Void visitWhileLoop(WhileLoopTree tree, Void none) {
        checkEnd(tree, tree.getCondition());
        return super.visitWhileLoop(tree, none);
    }

    @Override
    public Void visitDoWhileLoop(DoWhileLoopTree tree, Void none) {
        checkEnd(tree, tree.getCondition());
        return super.visitDoWhileLoop(tree, none);
    }

    private void checkEnd(Tree loop, ExpressionTree condition) {
        if (condition.toString().equals("(true)")) {
            fault(loop, "rule 9: a loop without an end");
        }
    }

    @Override
    public Void visitLambdaExpression(LambdaExpressionTree tree, Void none) {
        fault(tree, "rule 2: a lambda");
        return super.visitLambdaExpression(tree, none);
    }

    @Override
    public Void visitMemberReference(MemberReferenceTree tree, Void none) {
        fault(tree, "rule 2: a method reference");
        return super.visitMemberReference(tree, none);
    }

    @Override
    public Void visitSynchronized(SynchronizedTree tree, Void none) {
        fault(tree, "rule 6: synchronized");
        return super.visitSynchronized(tree, none);
    }

    @Override
    public Void visitAssert(AssertTree tree, Void none) {
        fault(tree, "rule 6: assert");
        return super.visitAssert(tree, none);
    }
}
