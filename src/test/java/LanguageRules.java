import java.io.IOException;
import java.lang.reflect.Field;
import java.lang.reflect.Method;
import java.lang.reflect.Modifier;
import java.nio.charset.StandardCharsets;
import java.nio.file.Files;
import java.nio.file.Path;
import java.util.Set;
import java.util.TreeSet;
import java.util.regex.Matcher;
import java.util.regex.Pattern;

/** What of ../shared/LANGUAGE.md can be seen from the class's members and from its words. */
public final class LanguageRules {
  private static final String FACE = "knot(III) ofKnot(II) weave() mend() walker(II) ofWalker(II) put(III) become(II) as(II) feed(JI)"
      + " text(I) law(IIII) days(I) loose(I) lands(I) greatest(I) nextTo(I) frontier(II) slips() mends(I) again(I) stays() road(III)"
      + " fits(III) layings(II) cut(I) dyed(III) then(III) seed(I) voice(III) trace(I) sheet(III) write(III) move(IIIII) colours(I)"
      + " judge(I) image() restore() tell(I) check() count(I) told(I)";
  private static final String BANNED = "throw|throws|try|catch|finally|synchronized|volatile|native|assert|package|import|protected"
      + "|float|double|Object|equals|hashCode|toString|System\\.(?!arraycopy\\b)\\w+|Thread|Random|Class|Exception|\\w*Exact"
      + "|instanceof|->|::|static\\s*\\{";
  private static int wrong = 0;

  private static void rule(int number, boolean holds, String what) {
    if (holds) return;
    wrong++;
    System.out.println("rule " + number + ": " + what);
  }

  public static void main(String[] args) throws IOException {
    Set<String> names = face();
    for (Class<?> inside : CarpetLands.class.getDeclaredClasses()) {
      rule(1, !Modifier.isPublic(inside.getModifiers()) && !Modifier.isProtected(inside.getModifiers()), inside + " is open");
      rule(2, Modifier.isStatic(inside.getModifiers()), inside + " isn't static");
      for (Method m : inside.getDeclaredMethods()) rule(1, !names.contains(m.getName()), m + " bears a public name");
      fields(inside);
    }
    fields(CarpetLands.class);
    int classes = 1 + CarpetLands.class.getDeclaredClasses().length;
    rule(11, classes <= 12, classes + " classes");
    words(Files.readString(Path.of("src/main/java/CarpetLands.java"), StandardCharsets.UTF_8));
    System.out.println(wrong == 0 ? "the rules are kept" : wrong + " rules are broken");
    if (wrong != 0) System.exit(1);
  }

  /** Checks the public face; gives the names in it. */
  private static Set<String> face() {
    Set<String> wanted = new TreeSet<>(Set.of(FACE.split(" ")));
    Set<String> names = new TreeSet<>();
    for (String w : wanted) names.add(w.substring(0, w.indexOf('(')));
    Set<String> got = new TreeSet<>();
    for (Method m : CarpetLands.class.getDeclaredMethods()) {
      if (Modifier.isPrivate(m.getModifiers())) {
        rule(1, !names.contains(m.getName()), m + " bears a public name");
        continue;
      }
      StringBuilder b = new StringBuilder(m.getName()).append('(');
      for (Class<?> p : m.getParameterTypes()) b.append(p == long.class ? 'J' : p == int.class ? 'I' : '?');
      got.add(b.append(')').toString());
      rule(1, m.getReturnType() == int.class && m.getModifiers() == Modifier.PUBLIC, m + " isn't as the document has it");
    }
    rule(1, got.equals(wanted), "the face is " + got);
    rule(1, CarpetLands.class.getConstructors().length == 1 && CarpetLands.class.getDeclaredConstructors().length == 1, "constructors");
    rule(1, CarpetLands.class.getModifiers() == (Modifier.PUBLIC | Modifier.FINAL), "the class isn't public and final");
    for (Field f : CarpetLands.class.getDeclaredFields()) rule(1, Modifier.isPrivate(f.getModifiers()), f + " is open");
    return names;
  }

  private static void fields(Class<?> of) {
    int own = 0;
    for (Field f : of.getDeclaredFields()) {
      if (Modifier.isStatic(f.getModifiers())) rule(5, Modifier.isFinal(f.getModifiers()), f + " isn't final");
      else own++;
    }
    rule(11, own <= 20, of + " has " + own + " fields");
  }

  private static void words(String source) {
    for (int i = 0; i < source.length(); i++) rule(4, source.charAt(i) < 128, "sign " + (int) source.charAt(i));
    String code = source.replaceAll("(?s)/\\*.*?\\*/", "").replaceAll("//[^\n]*", "").replaceAll("\"[^\"\n]*\"", "\"\"").replaceAll("'[^'\n]'", "' '");
    Matcher banned = Pattern.compile("(?<!\\w)(" + BANNED + ")(?!\\w)").matcher(code);
    while (banned.find()) rule(6, false, banned.group() + " stands in the source");
    Matcher texts = Pattern.compile("\"\"\\s*\\+|\\+\\s*\"\"").matcher(code);
    rule(10, !texts.find(), "texts joined by +");
  }
}
