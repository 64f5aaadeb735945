import com.sun.source.tree.AssignmentTree;
import com.sun.source.tree.BinaryTree;
import com.sun.source.tree.ClassTree;
import com.sun.source.tree.CompilationUnitTree;
import com.sun.source.tree.CompoundAssignmentTree;
import com.sun.source.tree.ExpressionTree;
import com.sun.source.tree.LiteralTree;
import com.sun.source.tree.MethodInvocationTree;
import com.sun.source.tree.MethodTree;
import com.sun.source.tree.NewClassTree;
import com.sun.source.tree.ThrowTree;
import com.sun.source.tree.Tree;
import com.sun.source.tree.VariableTree;
import com.sun.source.util.JavacTask;
import com.sun.source.util.TreePath;
import com.sun.source.util.TreePathScanner;
import com.sun.source.util.Trees;
import java.io.File;
import java.util.ArrayList;
import java.util.List;
import java.util.Map;
import java.util.Set;
import java.util.TreeMap;
import java.util.TreeSet;
import javax.lang.model.element.Element;
import javax.lang.model.element.ElementKind;
import javax.lang.model.element.Modifier;
import javax.tools.JavaCompiler;
import javax.tools.StandardJavaFileManager;
import javax.tools.ToolProvider;

/**
 * The program's source keeps to those rules of LANGUAGE.md that can be seen from its tree. Of what the
 * rules let, lists and calls that come back to themselves are not let here: the program has none.
 */
public final class LanguageTreeTest {
    private static final int MOST_CLASSES = 12;
    private static final int MOST_FIELDS = 20;
    private static final int MOST_PARAMETERS = 7;
    private static final int DEEPEST_CALL = 8;
    private static final String NUMBERS = "int|long|short|byte|char|boolean|double|float";
    private static final String TYPES = "(" + NUMBERS + ")(\\[\\]){0,2}|java\\.lang\\.(String|StringBuilder)"
        + "|Carryfree(\\.\\w+)?(\\[\\])?";
    private static final String STATIC_TYPES = "int|long|boolean|char|java\\.lang\\.String|(int|long|char|byte)\\[\\]";
    private static final Set<String> EXCEPTIONS = Set.of("IllegalStateException", "IllegalArgumentException",
        "IndexOutOfBoundsException", "ArithmeticException", "UnsupportedOperationException",
        "NoSuchElementException", "RuntimeException");
    private static final String LIBRARY = "java\\.lang\\.("
        + "String\\.(length\\(\\)|charAt\\(int\\)|isEmpty\\(\\)|indexOf\\(int\\)|substring\\((int|int,int)\\)"
        + "|toCharArray\\(\\))"
        + "|StringBuilder\\.(append\\((char|java\\.lang\\.String|int)\\)|charAt\\(int\\)|setCharAt\\(int,char\\)"
        + "|setLength\\(int\\)|deleteCharAt\\(int\\)|reverse\\(\\)|length\\(\\)|toString\\(\\))"
        // These two stand behind StringBuilder's length() and charAt().
        + "|AbstractStringBuilder\\.(length\\(\\)|charAt\\(int\\))"
        + "|(Integer|Long|Math)\\.(compare|max|min|abs|bitCount|floorDiv|floorMod)\\([intlog,]*\\)"
        + "|Object\\.<init>\\(\\)|StringBuilder\\.<init>\\(\\))";

    private LanguageTreeTest() {
    }

    public static void main(String[] args) throws Exception {
        JavaCompiler compiler = ToolProvider.getSystemJavaCompiler();
        try (StandardJavaFileManager files = compiler.getStandardFileManager(null, null, null)) {
            JavacTask task = (JavacTask) compiler.getTask(null, files, null, List.of("-proc:none"), null,
                files.getJavaFileObjects(new File("src/main/java/Carryfree.java")));
            CompilationUnitTree unit = task.parse().iterator().next();
            task.analyze();
            Rules rules = new Rules(Trees.instance(task));
            rules.scan(unit, null);
            rules.finish();
        }
        Check.finish("LanguageTreeTest");
    }

    private static final class Rules extends TreePathScanner<Void, Void> {
        private final Trees trees;
        /** Of each method of the program, those that it calls. */
        private final Map<String, Set<String>> calls = new TreeMap<>();
        private int classes = 0;
        private String method = "";
        private boolean isConstructor = false;

        Rules(Trees trees) {
            this.trees = trees;
        }

        void finish() {
            Check.same("rule 11: classes", classes <= MOST_CLASSES, true);
            Check.same("methods were found", calls.size() > 60, true);
            for (String name : calls.keySet()) {
                deep(name, new ArrayList<>());
            }
        }

        private void deep(String name, List<String> open) {
            Check.same("rule 8: " + name + " is called anew in " + open, open.contains(name), false);
            Check.same("rule 11: calls above " + name + ", " + open, open.size() < DEEPEST_CALL, true);
            if (!open.contains(name) && open.size() < DEEPEST_CALL) {
                open.add(name);
                for (String called : calls.getOrDefault(name, Set.of())) {
                    deep(called, open);
                }
                open.remove(open.size() - 1);
            }
        }

        @Override
        public Void visitClass(ClassTree tree, Void nothing) {
            classes++;
            boolean isOuter = getCurrentPath().getParentPath().getLeaf() instanceof CompilationUnitTree;
            Set<Modifier> modifiers = tree.getModifiers().getFlags();
            Check.same("rule 1: " + tree.getSimpleName() + " is public just if it is the program's class",
                modifiers.contains(Modifier.PUBLIC), isOuter);
            Check.same("rule 1: " + tree.getSimpleName() + " is static just if it stands inside",
                modifiers.contains(Modifier.STATIC), !isOuter);
            int fields = 0;
            for (Tree member : tree.getMembers()) {
                Check.same("rule 5: no static block", member.getKind() == Tree.Kind.BLOCK, false);
                if (member instanceof VariableTree
                    && !((VariableTree) member).getModifiers().getFlags().contains(Modifier.STATIC)) {
                    fields++;
                }
            }
            Check.same("rule 11: fields of " + tree.getSimpleName(), fields <= MOST_FIELDS, true);
            return super.visitClass(tree, nothing);
        }

        @Override
        public Void visitMethod(MethodTree tree, Void nothing) {
            method = told(element(getCurrentPath()));
            isConstructor = tree.getReturnType() == null;
            calls.put(method, new TreeSet<>());
            Check.same("rule 11: parameters of " + method, tree.getParameters().size() <= MOST_PARAMETERS, true);
            return super.visitMethod(tree, nothing);
        }

        @Override
        public Void visitVariable(VariableTree tree, Void nothing) {
            String type = typeOf(getCurrentPath());
            Check.same("rule 3: the type " + type + " of " + tree.getName(), type.matches(TYPES), true);
            Set<Modifier> modifiers = tree.getModifiers().getFlags();
            if (modifiers.contains(Modifier.STATIC)) {
                Check.same("rule 5: " + tree.getName() + " is final", modifiers.contains(Modifier.FINAL), true);
                Check.same("rule 5: the type " + type + " of " + tree.getName(), type.matches(STATIC_TYPES), true);
            }
            return super.visitVariable(tree, nothing);
        }

        @Override
        public Void visitMethodInvocation(MethodInvocationTree tree, Void nothing) {
            Element called = element(new TreePath(getCurrentPath(), tree.getMethodSelect()));
            if (told(called).startsWith("Carryfree")) {
                calls.get(method).add(told(called));
            } else {
                Check.same("rule 4: " + told(called) + " in " + method, told(called).matches(LIBRARY), true);
            }
            return super.visitMethodInvocation(tree, nothing);
        }

        @Override
        public Void visitNewClass(NewClassTree tree, Void nothing) {
            String made = told(element(getCurrentPath()));
            boolean isThrown = getCurrentPath().getParentPath().getLeaf() instanceof ThrowTree;
            boolean isKnown = made.startsWith("Carryfree") || made.matches(LIBRARY);
            Check.same("rule 4: " + made + " is made in " + method, isThrown || isKnown, true);
            return super.visitNewClass(tree, nothing);
        }

        @Override
        public Void visitThrow(ThrowTree tree, Void nothing) {
            Check.same("rule 6: no throw in a constructor", isConstructor, false);
            boolean isNew = tree.getExpression() instanceof NewClassTree;
            Check.same("rule 6: what " + method + " throws is made there", isNew, true);
            if (isNew) {
                NewClassTree made = (NewClassTree) tree.getExpression();
                Check.same("rule 6: " + made.getIdentifier(), EXCEPTIONS.contains(made.getIdentifier().toString()),
                    true);
                boolean isWritten = made.getArguments().isEmpty()
                    || made.getArguments().size() == 1 && made.getArguments().get(0) instanceof LiteralTree;
                Check.same("rule 6: the text is written out in " + method, isWritten, true);
            }
            return super.visitThrow(tree, nothing);
        }

        @Override
        public Void visitBinary(BinaryTree tree, Void nothing) {
            boolean isNull = tree.getLeftOperand().getKind() == Tree.Kind.NULL_LITERAL
                || tree.getRightOperand().getKind() == Tree.Kind.NULL_LITERAL;
            if (!isNull) {
                noText(tree.getLeftOperand());
                noText(tree.getRightOperand());
            }
            return super.visitBinary(tree, nothing);
        }

        @Override
        public Void visitCompoundAssignment(CompoundAssignmentTree tree, Void nothing) {
            noText(tree.getVariable());
            return super.visitCompoundAssignment(tree, nothing);
        }

        @Override
        public Void visitAssignment(AssignmentTree tree, Void nothing) {
            String type = typeOf(new TreePath(getCurrentPath(), tree.getVariable()));
            Check.same("rule 3: the type " + type + " of " + tree.getVariable(), type.matches(TYPES), true);
            return super.visitAssignment(tree, nothing);
        }

        /** Neither == nor + stands between two texts, nor == between two Integers. */
        private void noText(ExpressionTree operand) {
            String type = typeOf(new TreePath(getCurrentPath(), operand));
            Check.same("rules 6 and 10: " + operand + " in " + method + " is no text",
                type.matches("java\\.lang\\.(String|StringBuilder|Integer)"), false);
        }

        private Element element(TreePath path) {
            return trees.getElement(path);
        }

        private String typeOf(TreePath path) {
            return trees.getTypeMirror(path).toString();
        }

        /** The class, the name and the types of what is taken. */
        private static String told(Element called) {
            boolean isMaking = called.getKind() == ElementKind.CONSTRUCTOR;
            String taken = called.asType().toString();
            String types = taken.substring(taken.indexOf('('), taken.indexOf(')') + 1);
            return called.getEnclosingElement() + "." + (isMaking ? "<init>" : called.getSimpleName()) + types;
        }
    }
}
