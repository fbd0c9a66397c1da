import com.sun.source.tree.ClassTree;
import com.sun.source.tree.MethodInvocationTree;
import com.sun.source.tree.MethodTree;
import com.sun.source.tree.NewClassTree;
import java.io.IOException;
import java.util.ArrayDeque;
import java.util.ArrayList;
import java.util.HashMap;
import java.util.LinkedHashMap;
import java.util.LinkedHashSet;
import java.util.List;
import java.util.Map;
import java.util.Set;
import javax.lang.model.element.Element;
import javax.lang.model.element.ExecutableElement;
import javax.lang.model.element.Modifier;

/** Rules 4, 8 and 11 of ../shared/LANGUAGE.md: what is called, how deep, and which methods come back to themselves. */
public final class CallDepth extends Source {
  /** What the class takes from the library: a part of what rule 4 allows. */
  private static final Set<String> LIBRARY = Set.of("Long.bitCount", "Math.abs", "Math.floorMod", "Math.max", "Math.min", "Object.<init>",
      "String.indexOf", "System.arraycopy");
  private static final int MOST_DEEP = 8;
  /** The own methods that each own method calls; the calls of a method that isn't its own end there. */
  private static final Map<Element, Set<Element>> CALLS = new LinkedHashMap<>();
  private static final Map<Element, List<Element>> DEEPEST = new HashMap<>();
  private Set<Element> calls = new LinkedHashSet<>();

  public static void main(String[] args) throws IOException {
    new CallDepth().read();
    for (Set<Element> called : CALLS.values()) {
      for (Element each : called) rule(4, CALLS.containsKey(each) || LIBRARY.contains(nameOf(each)), "the library's " + nameOf(each));
      called.retainAll(CALLS.keySet());
    }
    for (Element method : CALLS.keySet()) {
      boolean isOpen = method.getEnclosingElement().getSimpleName().contentEquals("CarpetLands") && method.getModifiers().contains(Modifier.PUBLIC);
      if (comesBack(method)) {
        rule(8, method.getModifiers().contains(Modifier.PRIVATE), "recursion by " + nameOf(method) + ", which isn't private");
      }
      if (!isOpen) continue;
      List<Element> chain = deepest(method, new ArrayDeque<>());
      StringBuilder names = new StringBuilder();
      for (Element each : chain) names.append(' ').append(nameOf(each));
      rule(11, chain.size() <= MOST_DEEP, chain.size() + " deep:" + names);
    }
    rule(8, CALLS.size() > 40, "the source has but " + CALLS.size() + " methods");
    end("the calls are as the rules want them");
  }

  private static String nameOf(Element method) {
    return method.getEnclosingElement().getSimpleName() + "." + method.getSimpleName();
  }

  @Override public Void visitMethod(MethodTree tree, Void none) {
    Set<Element> around = calls;
    calls = new LinkedHashSet<>();
    CALLS.put(trees.getElement(getCurrentPath()), calls);
    super.visitMethod(tree, none);
    calls = around;
    return null;
  }

  @Override public Void visitClass(ClassTree tree, Void none) {
    Set<Element> around = calls;
    super.visitClass(tree, none);
    calls = around;
    return null;
  }

  @Override public Void visitMethodInvocation(MethodInvocationTree tree, Void none) {
    note();
    return super.visitMethodInvocation(tree, none);
  }

  @Override public Void visitNewClass(NewClassTree tree, Void none) {
    note();
    return super.visitNewClass(tree, none);
  }

  private void note() {
    Element called = trees.getElement(getCurrentPath());
    if (called instanceof ExecutableElement) calls.add(called);
  }

  private static boolean comesBack(Element method) {
    return reached(method).contains(method);
  }

  private static Set<Element> reached(Element from) {
    Set<Element> all = new LinkedHashSet<>();
    ArrayDeque<Element> open = new ArrayDeque<>(CALLS.get(from));
    while (!open.isEmpty()) {
      Element at = open.poll();
      if (all.add(at)) open.addAll(CALLS.get(at));
    }
    return all;
  }

  /** The longest chain of calls from a method on, in which none comes twice. */
  private static List<Element> deepest(Element from, ArrayDeque<Element> open) {
    List<Element> known = DEEPEST.get(from);
    if (known != null) return known;
    List<Element> best = new ArrayList<>();
    open.push(from);
    for (Element called : CALLS.get(from)) {
      if (open.contains(called)) continue;
      List<Element> chain = deepest(called, open);
      if (chain.size() > best.size()) best = chain;
    }
    open.pop();
    List<Element> whole = new ArrayList<>(List.of(from));
    whole.addAll(best);
    if (!comesBack(from)) DEEPEST.put(from, whole);
    return whole;
  }
}
