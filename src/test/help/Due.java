import java.lang.reflect.InvocationTargetException;
import java.lang.reflect.Method;
import java.util.HashMap;
import java.util.Map;

/** What the tests share: they ask a carpet, and print each answer that isn't due. */
abstract class Due {
  static final int BEYOND = -1000000001;
  static final int NONE = -1000000002;
  static final int STATE = -1000000003;
  static final int FULL = -1000000004;
  static final int KIND = -1000000005;
  static final int LEAST = Integer.MIN_VALUE;
  static final int MOST = Integer.MAX_VALUE;
  static final int KNOTS = 36;
  private static final Map<String, Method> CALLS = new HashMap<>();
  private static final int MOST_PRINTED = 40;
  private static String sentence = "";
  private static int sentences = 0;
  private static int wrong = 0;

  static {
    for (Method m : CarpetLands.class.getDeclaredMethods()) {
      if (!m.getName().contains("$")) CALLS.put(m.getName(), m);
    }
  }

  /** What is asked from here on comes from this sentence of the document. */
  static void sentence(String words) {
    sentence = words;
    sentences++;
  }

  static int howManyWrong() {
    return wrong;
  }

  static void due(String call, long got, long want) {
    if (got == want) return;
    wrong++;
    if (wrong <= MOST_PRINTED) System.out.println(sentence + ": " + call + " answered " + got + ", due is " + want);
  }

  /** Asks a carpet by the call's name. */
  static void due(CarpetLands x, long want, String call, long... arguments) {
    due(told(call, arguments), ask(x, call, arguments), want);
  }

  static int ask(CarpetLands x, String call, long... arguments) {
    Method m = CALLS.get(call);
    Class<?>[] types = m.getParameterTypes();
    Object[] given = new Object[types.length];
    for (int i = 0; i < types.length; i++) {
      if (types[i] == long.class) given[i] = arguments[i];
      else given[i] = Math.toIntExact(arguments[i]);
    }
    if (arguments.length != types.length) throw new IllegalStateException(call + " takes " + types.length);
    try {
      return (int) m.invoke(x, given);
    } catch (IllegalAccessException | InvocationTargetException e) {
      throw new IllegalStateException(told(call, arguments) + " threw", e);
    }
  }

  static String told(String call, long... arguments) {
    StringBuilder b = new StringBuilder(call).append('(');
    for (int i = 0; i < arguments.length; i++) b.append(i == 0 ? "" : ", ").append(arguments[i]);
    return b.append(')').toString();
  }

  static void end() {
    System.out.println(wrong == 0 ? "all answers are as due, to " + sentences + " sentences" : wrong + " answers are not as due");
    if (wrong != 0) System.exit(1);
  }

  /** Feeds a text to the tape, eight bytes at a time. */
  static void feed(CarpetLands x, String text) {
    for (int i = 0; i < text.length(); i += 8) {
      int n = Math.min(8, text.length() - i);
      long word = 0;
      for (int j = 0; j < n; j++) word |= (long) text.charAt(i + j) << (8 * j);
      x.feed(word, n);
    }
  }

  static int learn(CarpetLands x, int use, String text) {
    feed(x, text);
    return x.text(use);
  }

  static void dueFault(CarpetLands x, int use, String text, int fault) {
    due("text(" + use + ") of " + text, learn(x, use, text), -10 - fault);
    due("count(5) behind " + text, x.count(5), 0);
  }

  /** A carpet by six rows of digits. */
  static CarpetLands carpet(String... rows) {
    CarpetLands x = new CarpetLands();
    lay(x, rows);
    return x;
  }

  static void lay(CarpetLands x, String... rows) {
    for (int i = 0; i < KNOTS; i++) x.knot(i, 0, rows[i / 6].charAt(i % 6) - '0');
  }

  static void sheet(CarpetLands x, int s, int bits, String numbers) {
    x.sheet(s, bits, numbers.length());
    for (int i = 0; i < numbers.length(); i++) x.write(s, i, numbers.charAt(i) - '0');
  }

  /** Passes days until it is that one. */
  static void toDay(CarpetLands x, int day) {
    for (int left = day - x.count(1); left > 0; left = day - x.count(1)) x.days(Math.min(left, 100));
  }
}
