import java.lang.reflect.Method;
import java.lang.reflect.Modifier;
import java.util.ArrayList;
import java.util.List;
import java.util.Random;

/**
 * Any calls with any arguments (drawn, but always the same), far more than an object has to bear: none throws, all
 * stays within the document's bounds, and told() counts each ERROR once.
 */
public final class AnyCalls extends Due {
  private static final int OBJECTS = 60;
  private static final int CALLS = 3000;
  private static final int[] EDGES = {LEAST, LEAST + 1, MOST, MOST - 1, -1, 0, 1, BEYOND, KIND, 35, 36, 99, 100, 255, 256};

  public static void main(String[] args) {
    sentence("No call may ever throw or fail to end, for any arguments in any state");
    List<Method> calls = new ArrayList<>();
    for (Method m : CarpetLands.class.getDeclaredMethods()) {
      if (Modifier.isPublic(m.getModifiers())) calls.add(m);
    }
    calls.sort((a, b) -> a.getName().compareTo(b.getName()));
    for (int seed = 0; seed < OBJECTS && howManyWrong() == 0; seed++) play(calls, new Random(seed));
    end();
  }

  private static void play(List<Method> calls, Random random) {
    CarpetLands x = new CarpetLands();
    int[] counts = new int[6];
    for (int i = 0; i < CALLS && howManyWrong() == 0; i++) {
      Method m = calls.get(random.nextInt(calls.size()));
      Class<?>[] types = m.getParameterTypes();
      long[] arguments = new long[types.length];
      for (int a = 0; a < types.length; a++) arguments[a] = types[a] == long.class ? random.nextLong() : drawn(random);
      boolean isAny = mayBeAny(x, m.getName(), arguments);
      int answer = ask(x, m.getName(), arguments);
      if (isAny) continue;
      String call = told(m.getName(), arguments);
      due("whether " + call + " answers what is in its bounds: " + answer, answer >= -60 || answer >= KIND && answer <= BEYOND ? 1 : 0, 1);
      if (answer < -60) counts[-1000000000 - answer]++;
      if (i % 50 == 0) dueBounds(x, counts, call);
    }
  }

  private static int drawn(Random random) {
    int dice = random.nextInt(10);
    if (dice == 0) return random.nextInt();
    if (dice == 1) return EDGES[random.nextInt(EDGES.length)];
    return dice < 6 ? random.nextInt(9) - 1 : random.nextInt(44) - 2;
  }

  /** Whether the answer may be any number, and no ERROR though it looks like one. */
  private static boolean mayBeAny(CarpetLands x, String call, long[] arguments) {
    if (call.equals("seed")) return true;
    if (call.equals("count")) return arguments[0] == 8;
    return call.equals("voice") && arguments[0] >= 0 && arguments[0] < x.count(0) && arguments[1] >= 0 && arguments[1] <= 3;
  }

  private static void dueBounds(CarpetLands x, int[] counts, String behind) {
    for (int k = 1; k <= 5; k++) due("told(" + k + ") behind " + behind, x.told(k), counts[k]);
    int[] most = {5, 9999, 36, 36 * 99, 254, 50, 20, 40};
    for (int what = 0; what < most.length; what++) dueWithin("count(" + what + ") behind " + behind, x.count(what), most[what]);
    int[] ofKnot = {7, 99, 7, 99, 36, 35};
    for (int k = 0; k < KNOTS; k++) {
      for (int what = 0; what < ofKnot.length; what++) dueWithin("ofKnot(" + k + ", " + what + ") behind " + behind, x.ofKnot(k, what), ofKnot[what]);
    }
    int[] ofWalker = {6, 9, 35, 3, 12, 1};
    for (int w = x.count(0) - 1; w >= 0; w--) {
      for (int what = 0; what < ofWalker.length; what++) dueWithin("ofWalker(" + w + ", " + what + ") behind " + behind, x.ofWalker(w, what), ofWalker[what]);
    }
  }

  private static void dueWithin(String call, int got, int most) {
    due("whether " + call + " is within 0 to " + most + ": " + got, got >= 0 && got <= most ? 1 : 0, 1);
  }
}
