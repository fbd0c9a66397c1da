import com.sun.source.tree.ArrayAccessTree;
import com.sun.source.tree.AssertTree;
import com.sun.source.tree.AssignmentTree;
import com.sun.source.tree.BinaryTree;
import com.sun.source.tree.BlockTree;
import com.sun.source.tree.ClassTree;
import com.sun.source.tree.CompoundAssignmentTree;
import com.sun.source.tree.ConditionalExpressionTree;
import com.sun.source.tree.DoWhileLoopTree;
import com.sun.source.tree.ExpressionTree;
import com.sun.source.tree.ForLoopTree;
import com.sun.source.tree.LambdaExpressionTree;
import com.sun.source.tree.MemberReferenceTree;
import com.sun.source.tree.MethodInvocationTree;
import com.sun.source.tree.MethodTree;
import com.sun.source.tree.NewArrayTree;
import com.sun.source.tree.NewClassTree;
import com.sun.source.tree.SwitchTree;
import com.sun.source.tree.SynchronizedTree;
import com.sun.source.tree.ThrowTree;
import com.sun.source.tree.Tree;
import com.sun.source.tree.TryTree;
import com.sun.source.tree.TypeCastTree;
import com.sun.source.tree.UnaryTree;
import com.sun.source.tree.VariableTree;
import com.sun.source.tree.WhileLoopTree;
import com.sun.source.util.TreePath;
import java.io.IOException;
import java.util.Set;
import javax.lang.model.element.Element;
import javax.lang.model.element.Modifier;
import javax.lang.model.element.VariableElement;
import javax.lang.model.type.ArrayType;
import javax.lang.model.type.DeclaredType;
import javax.lang.model.type.TypeKind;
import javax.lang.model.type.TypeMirror;

/** What of rules 2, 3, 5, 6, 7, 9, 10, 11 and 12 of ../shared/LANGUAGE.md can be seen from the compiler's own tree. */
public final class Shapes extends Source {
  private static final Set<String> TEXTS = Set.of("String", "StringBuilder", "Integer", "ArrayList", "List");
  private static final Set<Tree.Kind> DIVISIONS = Set.of(Tree.Kind.DIVIDE, Tree.Kind.REMAINDER, Tree.Kind.DIVIDE_ASSIGNMENT, Tree.Kind.REMAINDER_ASSIGNMENT);
  private static final Set<Tree.Kind> BOUNDS = Set.of(Tree.Kind.LESS_THAN, Tree.Kind.LESS_THAN_EQUAL, Tree.Kind.GREATER_THAN, Tree.Kind.GREATER_THAN_EQUAL);
  private static final int MOST_LINES = 60;
  private static final int MOST_PARAMETERS = 7;
  private int methods = 0;

  public static void main(String[] args) throws IOException {
    Shapes shapes = new Shapes();
    shapes.read();
    rule(11, shapes.methods > 40, "the source has but " + shapes.methods + " methods");
    end("the shapes are as the rules want them");
  }

  private void ruleHere(int number, boolean holds, Tree tree) {
    long line = unit.getLineMap().getLineNumber(trees.getSourcePositions().getStartPosition(unit, tree));
    rule(number, holds, "line " + line + ": " + tree.toString().lines().findFirst().orElse(""));
  }

  private TypeMirror typeOf(Tree tree) {
    return trees.getTypeMirror(new TreePath(getCurrentPath(), tree));
  }

  private static String nameOf(TypeMirror type) {
    return type instanceof DeclaredType ? ((DeclaredType) type).asElement().getSimpleName().toString() : type.toString();
  }

  private static boolean isOwn(TypeMirror type) {
    return type instanceof DeclaredType && (nameOf(type).equals("CarpetLands") || type.toString().startsWith("CarpetLands."));
  }

  // ---- rule 2: classes

  @Override public Void visitClass(ClassTree tree, Void none) {
    Tree around = getCurrentPath().getParentPath().getLeaf();
    boolean isOutermost = around == unit;
    ruleHere(2, isOutermost || around instanceof ClassTree, tree);
    ruleHere(2, isOutermost || tree.getKind() != Tree.Kind.CLASS || tree.getModifiers().getFlags().contains(Modifier.STATIC), tree);
    return super.visitClass(tree, none);
  }

  @Override public Void visitLambdaExpression(LambdaExpressionTree tree, Void none) {
    ruleHere(2, false, tree);
    return super.visitLambdaExpression(tree, none);
  }

  @Override public Void visitMemberReference(MemberReferenceTree tree, Void none) {
    ruleHere(2, false, tree);
    return super.visitMemberReference(tree, none);
  }

  // ---- rules 3 and 5: types, static fields

  private static boolean isAllowed(TypeMirror type) {
    if (type.getKind() == TypeKind.VOID || type.getKind().isPrimitive() || isOwn(type)) return true;
    if (type instanceof ArrayType) {
      TypeMirror of = ((ArrayType) type).getComponentType();
      if (of instanceof ArrayType) return ((ArrayType) of).getComponentType().getKind().isPrimitive();
      return of.getKind().isPrimitive() || isOwn(of);
    }
    return TEXTS.contains(nameOf(type));
  }

  @Override public Void visitVariable(VariableTree tree, Void none) {
    TypeMirror type = trees.getTypeMirror(getCurrentPath());
    ruleHere(3, isAllowed(type), tree);
    if (tree.getModifiers().getFlags().contains(Modifier.STATIC)) {
      ruleHere(5, tree.getModifiers().getFlags().contains(Modifier.FINAL), tree);
      ruleHere(5, isConstant(tree, type), tree);
    }
    return super.visitVariable(tree, none);
  }

  private static boolean isConstant(VariableTree tree, TypeMirror type) {
    if (type instanceof ArrayType) {
      boolean isWrittenOut = tree.getInitializer() instanceof NewArrayTree && ((NewArrayTree) tree.getInitializer()).getInitializers() != null;
      return isWrittenOut && Set.of("int", "long", "char", "byte").contains(((ArrayType) type).getComponentType().toString());
    }
    return Set.of("int", "long", "boolean", "char", "String").contains(nameOf(type));
  }

  @Override public Void visitBlock(BlockTree tree, Void none) {
    ruleHere(5, !(getCurrentPath().getParentPath().getLeaf() instanceof ClassTree), tree);
    return super.visitBlock(tree, none);
  }

  /** No place of a static row is written to. */
  private void ruleWritten(ExpressionTree place) {
    if (!(place instanceof ArrayAccessTree)) return;
    TreePath path = new TreePath(getCurrentPath(), place);
    ruleHere(5, !isStaticField(trees.getElement(new TreePath(path, ((ArrayAccessTree) place).getExpression()))), place);
  }

  private static boolean isStaticField(Element element) {
    return element != null && element.getKind().isField() && element.getModifiers().contains(Modifier.STATIC);
  }

  @Override public Void visitAssignment(AssignmentTree tree, Void none) {
    ruleWritten(tree.getVariable());
    return super.visitAssignment(tree, none);
  }

  @Override public Void visitUnary(UnaryTree tree, Void none) {
    Tree.Kind kind = tree.getKind();
    if (kind != Tree.Kind.UNARY_MINUS && kind != Tree.Kind.LOGICAL_COMPLEMENT && kind != Tree.Kind.BITWISE_COMPLEMENT) ruleWritten(tree.getExpression());
    return super.visitUnary(tree, none);
  }

  /** No static row is handed to a method, where it might be written to. */
  @Override public Void visitMethodInvocation(MethodInvocationTree tree, Void none) {
    for (ExpressionTree given : tree.getArguments()) {
      TreePath path = new TreePath(getCurrentPath(), given);
      if (trees.getTypeMirror(path) instanceof ArrayType) ruleHere(5, !isStaticField(trees.getElement(path)), tree);
    }
    if (tree.getMethodSelect().toString().equals("Math.floorMod")) ruleDivisor(tree, tree.getArguments().get(1));
    return super.visitMethodInvocation(tree, none);
  }

  // ---- rules 6 and 10: what may not stand there

  @Override public Void visitThrow(ThrowTree tree, Void none) {
    ruleHere(6, false, tree);
    return super.visitThrow(tree, none);
  }

  @Override public Void visitTry(TryTree tree, Void none) {
    ruleHere(6, false, tree);
    return super.visitTry(tree, none);
  }

  @Override public Void visitSynchronized(SynchronizedTree tree, Void none) {
    ruleHere(6, false, tree);
    return super.visitSynchronized(tree, none);
  }

  @Override public Void visitAssert(AssertTree tree, Void none) {
    ruleHere(6, false, tree);
    return super.visitAssert(tree, none);
  }

  @Override public Void visitBinary(BinaryTree tree, Void none) {
    String left = nameOf(typeOf(tree.getLeftOperand()));
    String right = nameOf(typeOf(tree.getRightOperand()));
    Tree.Kind kind = tree.getKind();
    boolean compares = kind == Tree.Kind.EQUAL_TO || kind == Tree.Kind.NOT_EQUAL_TO;
    if (compares) ruleHere(6, !left.equals("String") && !right.equals("String") && !left.equals("Integer") && !right.equals("Integer"), tree);
    if (kind == Tree.Kind.PLUS) ruleHere(10, !left.equals("String") && !right.equals("String"), tree);
    if (DIVISIONS.contains(kind)) ruleDivisor(tree, tree.getRightOperand());
    return super.visitBinary(tree, none);
  }

  @Override public Void visitCompoundAssignment(CompoundAssignmentTree tree, Void none) {
    ruleWritten(tree.getVariable());
    ruleHere(10, !nameOf(typeOf(tree.getVariable())).equals("String"), tree);
    if (DIVISIONS.contains(tree.getKind())) ruleDivisor(tree, tree.getExpression());
    return super.visitCompoundAssignment(tree, none);
  }

  @Override public Void visitSwitch(SwitchTree tree, Void none) {
    ruleHere(10, typeOf(tree.getExpression()).getKind().isPrimitive(), tree);
    return super.visitSwitch(tree, none);
  }

  // ---- rule 7: divisors, casts

  /** A divisor is a number other than 0, or stands behind its own test, as in y == 0 ? 0 : x / y. */
  private void ruleDivisor(Tree tree, ExpressionTree divisor) {
    Object value = null;
    Element element = trees.getElement(new TreePath(getCurrentPath(), divisor));
    if (element instanceof VariableElement) value = ((VariableElement) element).getConstantValue();
    if (divisor.toString().matches("[1-9]\\d*")) value = 1;
    boolean isNumber = value instanceof Number && ((Number) value).longValue() != 0;
    Tree around = getCurrentPath().getParentPath().getLeaf();
    boolean isTested = around instanceof ConditionalExpressionTree && ((ConditionalExpressionTree) around).getFalseExpression() == tree
        && ((ConditionalExpressionTree) around).getCondition().toString().replaceAll("[() ]", "").equals(divisor + "==0");
    ruleHere(7, isNumber || isTested, tree);
  }

  @Override public Void visitTypeCast(TypeCastTree tree, Void none) {
    ruleHere(7, typeOf(tree.getType()).getKind().isPrimitive(), tree);
    return super.visitTypeCast(tree, none);
  }

  // ---- rule 9: loops

  private static boolean isBounded(ExpressionTree condition) {
    if (condition == null) return false;
    boolean[] found = {false};
    new com.sun.source.util.TreeScanner<Void, Void>() {
      @Override public Void visitBinary(BinaryTree tree, Void none) {
        if (BOUNDS.contains(tree.getKind())) found[0] = true;
        // What stands on one side of an "or" alone ends nothing.
        return tree.getKind() == Tree.Kind.CONDITIONAL_OR ? null : super.visitBinary(tree, none);
      }
    }.scan(condition, null);
    return found[0];
  }

  @Override public Void visitForLoop(ForLoopTree tree, Void none) {
    ruleHere(9, isBounded(tree.getCondition()) && !tree.getUpdate().isEmpty(), tree);
    return super.visitForLoop(tree, none);
  }

  @Override public Void visitWhileLoop(WhileLoopTree tree, Void none) {
    ruleHere(9, isBounded(tree.getCondition()), tree);
    return super.visitWhileLoop(tree, none);
  }

  @Override public Void visitDoWhileLoop(DoWhileLoopTree tree, Void none) {
    ruleHere(9, isBounded(tree.getCondition()), tree);
    return super.visitDoWhileLoop(tree, none);
  }

  // ---- rules 11 and 12: methods, what is made

  @Override public Void visitMethod(MethodTree tree, Void none) {
    methods++;
    if (tree.getReturnType() != null) ruleHere(3, isAllowed(typeOf(tree.getReturnType())), tree);
    ruleHere(6, !Set.of("equals", "hashCode", "toString").contains(tree.getName().toString()), tree);
    ruleHere(11, tree.getParameters().size() <= MOST_PARAMETERS, tree);
    long first = unit.getLineMap().getLineNumber(Math.max(0, trees.getSourcePositions().getStartPosition(unit, tree)));
    long last = unit.getLineMap().getLineNumber(Math.max(0, trees.getSourcePositions().getEndPosition(unit, tree)));
    ruleHere(11, last - first < MOST_LINES, tree);
    return super.visitMethod(tree, none);
  }

  /** Stricter than the rule: nothing is made but by a constructor or for a field. */
  private boolean isMadeOnce() {
    for (Tree around : getCurrentPath()) {
      if (around instanceof MethodTree) return ((MethodTree) around).getName().contentEquals("<init>");
    }
    return true;
  }

  @Override public Void visitNewClass(NewClassTree tree, Void none) {
    ruleHere(12, isMadeOnce(), tree);
    return super.visitNewClass(tree, none);
  }

  @Override public Void visitNewArray(NewArrayTree tree, Void none) {
    ruleHere(12, isMadeOnce(), tree);
    return super.visitNewArray(tree, none);
  }
}
