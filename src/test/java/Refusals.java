import java.util.ArrayList;
import java.util.List;

/**
 * Each call is refused in each way that the document names, by values just outside, and by the least and the
 * greatest int, alone and together; and no refusal changes anything but what told() tells, which counts it once.
 * What is only thought changes nothing at all.
 */
public final class Refusals extends Due {
  private static final int BATCH = 15;
  private static final int STATES = 3;
  private static final int FRESH = 0;
  private static final int MIDDLE = 1;
  private static final int FILLED = 2;
  private static final String[] NAMES = {"a fresh carpet", "one in use", "a full one"};
  private static final int[] WALKERS = {0, 3, 5};
  /** How many numbers each sheet has, by states; -1 where it is missing. */
  private static final int[][] LENGTHS = {{-1, -1, -1, -1}, {36, 40, 36, -1}, {40, 40, 40, 40}};

  /** A call with what is due; 0 where it is any answer that told() doesn't count. */
  private static final class Call {
    final int due;
    final String name;
    final long[] arguments;

    Call(int due, String name, long... arguments) {
      this.due = due;
      this.name = name;
      this.arguments = arguments;
    }
  }

  public static void main(String[] args) {
    statesAreAsMeant();
    for (int state = 0; state < STATES; state++) {
      sentence("one that answers an ERROR changes nothing but what told() tells, by " + NAMES[state]);
      changeNothing(state, refused(state));
      sentence("(All this is only thought.) by " + NAMES[state]);
      changeNothing(state, thought(state));
    }
    end();
  }

  /** Checks what else the tests of a state take for granted: how full it is, and that each number that waits counts. */
  private static void statesAreAsMeant() {
    int[][] counts = {{0, 0, 0, 0, 1}, {3, 9, 2, 4, 4}, {5, 9999, 50, 20, 20}};
    for (int state = 0; state < STATES; state++) {
      sentence(NAMES[state]);
      CarpetLands x = built(state);
      due(x, counts[state][0], "count", 0);
      due(x, counts[state][1], "count", 1);
      due(x, counts[state][2], "count", 5);
      due(x, counts[state][3], "count", 6);
      if (state != FRESH) due(x, counts[state][4], "check");
      for (int s = 0; s < 4; s++) due(x, LENGTHS[state][s] < 0 ? NONE : 0, "move", s, 0, s, Math.max(LENGTHS[state][s], 0), 0);
      if (state == FRESH) continue;
      x.restore();
      x.tell(-1);
      due("check() of the image's numbers, and a wrong one if there is room", x.check(), state == MIDDLE ? 5 : 0);
    }
  }

  /** Makes the calls a batch at a time, each batch once for each part of what can be asked behind it. */
  private static void changeNothing(int state, List<Call> calls) {
    for (int part = 0; part < 3; part++) {
      List<Integer> wanted = asked(built(state), part);
      for (int from = 0; from < calls.size(); from += BATCH) {
        List<Call> batch = calls.subList(from, Math.min(from + BATCH, calls.size()));
        if (isAsBefore(state, batch, part, wanted)) continue;
        for (Call call : batch) {
          if (!isAsBefore(state, List.of(call), part, wanted)) due("what is changed by " + told(call.name, call.arguments), 1, 0);
        }
      }
    }
  }

  private static boolean isAsBefore(int state, List<Call> batch, int part, List<Integer> wanted) {
    CarpetLands x = built(state);
    int[] counts = new int[6];
    for (int k = 1; k <= 5; k++) counts[k] = x.told(k);
    for (Call call : batch) {
      if (call.due == 0) {
        ask(x, call.name, call.arguments);
        continue;
      }
      due(x, call.due, call.name, call.arguments);
      int k = -1000000000 - call.due;
      counts[k]++;
      due("told(" + k + ") behind " + told(call.name, call.arguments), x.told(k), counts[k]);
    }
    for (int k = 1; k <= 5; k++) due("told(" + k + ") behind a batch of calls, the last " + batch.get(batch.size() - 1).name, x.told(k), counts[k]);
    return asked(x, part).equals(wanted);
  }

  // ---- the states

  private static CarpetLands built(int state) {
    if (state == FRESH) return new CarpetLands();
    return state == MIDDLE ? inUse() : full();
  }

  private static CarpetLands inUse() {
    CarpetLands x = begunInUse();
    tellHoles(x, begunInUse(), 4);
    x.image();
    goOnInUse(x);
    CarpetLands y = begunInUse();
    goOnInUse(y);
    x.check();
    tellHoles(x, y, 3);
    x.tell(-1);
    return x;
  }

  private static CarpetLands begunInUse() {
    CarpetLands x = carpet("123450", "110022", "110022", "334455", "334455", "667700");
    for (int k = 0; k < KNOTS; k += 5) x.knot(k, 1, 2 * k);
    int[] kms = {12, 33, 50};
    for (int w = 0; w < 3; w++) x.walker(kms[w], 9 * w);
    learn(x, 0, "r*2+c+d");
    learn(x, 1, "k*3+w");
    x.days(7);
    sheet(x, 0, 8, "123450110022110022334455334455667701");
    sheet(x, 1, 16, "1234501100221100223344553344556677012345");
    x.sheet(2, 32, 36);
    x.write(2, 35, -1);
    x.voice(1, 3, 5);
    return x;
  }

  private static void goOnInUse(CarpetLands x) {
    x.loose(2);
    x.put(2, 20, 3);
    feed(x, "r+");
  }

  private static CarpetLands full() {
    CarpetLands x = begunFull(9999);
    tellHoles(x, begunFull(41), 20);
    x.image();
    goOnFull(x);
    CarpetLands y = begunFull(41);
    goOnFull(y);
    x.check();
    tellHoles(x, y, 19);
    x.tell(-1);
    return x;
  }

  /** All but DAY is the same for each odd day, so that what comes behind the last day can be found on an earlier one. */
  private static CarpetLands begunFull(int day) {
    CarpetLands x = new CarpetLands();
    for (int w = 0; w < 5; w++) x.walker(13 * w + 9, 0);
    x.loose(40);
    toDay(x, day);
    learn(x, 0, "r*c");
    x.weave();
    learn(x, 0, "r*c+d");
    learn(x, 1, "w-c");
    for (int k = 0; k < KNOTS; k += 7) x.knot(k, 0, 0);
    for (int k = 1; k < KNOTS; k += 7) x.knot(k, 1, 99 - k);
    for (int w = 0; w < 5; w++) x.put(w, 7 * w, w % 4);
    for (int s = 0; s < 4; s++) {
      x.sheet(s, 8 << s % 3, 40);
      for (int i = s; i < 40; i += 5) x.write(s, i, (i + s) % 8);
    }
    feed(x, "c*10+1+1+1+1+1+1+1+1+1+1+1+1+1+1+1+1+1+1+1+1+1+1+1");
    x.voice(4, 3, 9);
    return x;
  }

  private static void goOnFull(CarpetLands x) {
    x.put(4, 35, 0);
    x.seed(LEAST);
  }

  /** Tells what holes there are on the next days, by passing them on a carpet that is alike. */
  private static void tellHoles(CarpetLands x, CarpetLands alike, int n) {
    for (int i = 0; i < n; i++) x.tell(alike.days(1));
  }

  // ---- what can be asked of a state

  private static List<Integer> asked(CarpetLands x, int part) {
    List<Integer> answers = new ArrayList<>();
    if (part == 0) askAll(x, answers);
    if (part == 1) askSheets(x, answers);
    if (part == 2) {
      answers.add(x.check());
      answers.add(x.feed('0', 1));
      answers.add(x.text(0));
      for (int i = 0; i < 5; i++) answers.add(x.law(0, i, 2, i * i));
      answers.add(x.loose(1));
      answers.add(x.restore());
      askAll(x, answers);
      answers.add(x.check());
      answers.add(x.image());
    }
    return answers;
  }

  private static void askAll(CarpetLands x, List<Integer> answers) {
    for (int what = 0; what <= 8; what++) answers.add(x.count(what));
    for (int k = 0; k < KNOTS; k++) for (int what = 0; what <= 1; what++) answers.add(x.ofKnot(k, what));
    for (int w = 0; w < 5; w++) for (int what = 0; what <= 3; what++) answers.add(x.ofWalker(w, what));
    for (int i = 0; i < 10; i++) answers.add(x.trace(i));
    for (int i = 0; i < 3; i++) {
      answers.add(x.law(0, i, 2 * i + 1, 3 * i + 2));
      answers.add(x.law(1, i, 2 * i + 1, 3 * i + 2));
    }
  }

  /** Each sheet's numbers by way of the carpet's colours, its bits and its length by what it refuses. */
  private static void askSheets(CarpetLands x, List<Integer> answers) {
    for (int s = 0; s < 4; s++) {
      for (int t = s; t < 4; t++) answers.add(x.move(s, 0, t, 0, 0));
      for (int i : new int[] {36, 37, 40, 41}) answers.add(x.move(s, i, s, i, 0));
      answers.add(x.colours(s));
      for (int k = 0; k < KNOTS; k++) answers.add(x.ofKnot(k, 0));
      answers.add(x.move(s, 36, s, 0, 4));
      answers.add(x.colours(s));
      for (int k = 0; k < 4; k++) answers.add(x.ofKnot(k, 0));
    }
  }

  // ---- what is refused

  private static List<Call> refused(int state) {
    List<Call> calls = new ArrayList<>();
    int walkers = WALKERS[state];
    long[] knots = outside(0, 35);
    long[] walker = outside(0, walkers - 1);
    long[] two = outside(0, 1);
    long[] sheets = outside(0, 3);
    beyond(calls, "knot", knots, two, outside(0, 7));
    beyond(calls, "knot", knots, new long[] {1}, outside(0, 99));
    beyond(calls, "ofKnot", knots, outside(0, 5));
    beyond(calls, "walker", outside(0, 69), knots);
    beyond(calls, "ofWalker", walker, outside(0, 5));
    beyond(calls, "put", walker, knots, outside(0, 3));
    beyond(calls, "become", walker, outside(0, 69));
    beyond(calls, "as", walker, outside(0, 6));
    beyond(calls, "feed", new long[] {0x72, Long.MIN_VALUE, Long.MAX_VALUE}, outside(1, 8));
    beyond(calls, "text", two);
    beyond(calls, "law", two, any(), any(), any());
    beyond(calls, "days", outside(1, 100));
    beyond(calls, "loose", outside(1, 40));
    beyond(calls, "lands", outside(-1, 7));
    for (String call : new String[] {"greatest", "again", "cut"}) beyond(calls, call, two);
    beyond(calls, "nextTo", knots);
    beyond(calls, "frontier", outside(0, 7), outside(1, 7));
    for (int k = 0; k <= 7; k++) calls.add(new Call(BEYOND, "frontier", k, k));
    beyond(calls, "mends", outside(1, 7));
    beyond(calls, "road", knots, knots, outside(0, 255));
    beyond(calls, "fits", sheets, outside(-5, 5), outside(-5, 5));
    beyond(calls, "layings", sheets, two);
    for (int n = 1; n <= 3; n++) beyond(calls, "dyed", knots, new long[] {n}, outside(-1, n - 1));
    for (int what = -1; what <= 0; what++) beyond(calls, "dyed", knots, outside(1, 3), new long[] {what});
    beyond(calls, "then", outside(0, 100), walker, two);
    beyond(calls, "voice", walker, outside(0, 3), any());
    for (String call : new String[] {"colours", "judge"}) beyond(calls, call, sheets);
    beyond(calls, "count", outside(0, 8));
    beyond(calls, "told", outside(1, 5));
    refusedSheets(state, calls);
    refusedMoves(state, calls);
    if (state == FRESH) refusedFresh(calls);
    if (state == MIDDLE) refusedMiddle(calls);
    if (state == FILLED) refusedFilled(calls);
    return calls;
  }

  /** A bound's least value, which is allowed (unless none is), then those that aren't. */
  private static long[] outside(int least, int most) {
    if (most < least) return new long[] {MOST, least, least - 1, LEAST};
    return new long[] {least, least - 1, most + 1, LEAST, MOST};
  }

  /** Where any number may stand. */
  private static long[] any() {
    return new long[] {0, LEAST, MOST};
  }

  /** Adds each call of which one argument or more is outside; the first of an argument's values isn't, if it can be so. */
  private static void beyond(List<Call> calls, String name, long[]... values) {
    int all = 1;
    for (long[] v : values) all *= v.length;
    for (int number = 0; number < all; number++) {
      long[] arguments = new long[values.length];
      boolean isOutside = false;
      for (int i = 0, rest = number; i < values.length; i++) {
        int which = rest % values[i].length;
        arguments[i] = values[i][which];
        if (values[i].length > 3 && (which > 0 || arguments[i] == MOST)) isOutside = true;
        rest /= values[i].length;
      }
      if (isOutside) calls.add(new Call(BEYOND, name, arguments));
    }
  }

  private static void refusedSheets(int state, List<Call> calls) {
    long[] noSheets = {-1, 4, LEAST, MOST};
    long[] noBits = {-8, 1, 9, 24, 33, 64, LEAST, MOST};
    long[] lengths = {0, 40, -1, 41, LEAST, MOST};
    for (long n : lengths) {
      for (long s : noSheets) for (long bits : new long[] {0, 8, 9, 16, 32, LEAST}) calls.add(new Call(BEYOND, "sheet", s, bits, n));
      for (long bits : noBits) for (int s = 0; s < 4; s++) calls.add(new Call(BEYOND, "sheet", s, bits, n));
    }
    for (int s = 0; s < 4; s++) {
      for (int bits = 8; bits <= 32; bits *= 2) {
        calls.add(new Call(STATE, "sheet", s, bits, -1));
        calls.add(new Call(STATE, "sheet", s, bits, LEAST));
        calls.add(new Call(BEYOND, "sheet", s, bits, 41));
        calls.add(new Call(BEYOND, "sheet", s, bits, MOST));
      }
      int length = LENGTHS[state][s];
      for (long i : new long[] {Math.max(length, 0), -1, 40, LEAST, MOST}) {
        for (long v : any()) calls.add(new Call(length < 0 ? NONE : BEYOND, "write", s, i, v));
      }
      if (length < 0) {
        calls.add(new Call(NONE, "write", s, 0, 1));
        calls.add(new Call(NONE, "colours", s));
        calls.add(new Call(NONE, "judge", s));
      }
      boolean isCarpet = state == MIDDLE && s == 0;
      if (isCarpet) continue;
      for (int rows = -5; rows <= 5; rows += 5) calls.add(new Call(NONE, "fits", s, rows, -rows));
      for (int what = 0; what <= 1; what++) calls.add(new Call(NONE, "layings", s, what));
    }
    for (long s : noSheets) for (long i : any()) for (long v : any()) calls.add(new Call(BEYOND, "write", s, i, v));
  }

  private static void refusedMoves(int state, List<Call> calls) {
    long[] noSheets = {-1, 4, LEAST, MOST};
    for (long s : noSheets) {
      for (long other = -1; other <= 4; other++) {
        for (long v : any()) {
          calls.add(new Call(BEYOND, "move", s, v, other, 0, 1));
          calls.add(new Call(BEYOND, "move", other, 0, s, v, v));
        }
      }
    }
    for (int s = 0; s < 4; s++) {
      for (int t = 0; t < 4; t++) {
        boolean isMissing = LENGTHS[state][s] < 0 || LENGTHS[state][t] < 0;
        boolean areUnlike = s % 3 != t % 3;
        int due = isMissing ? NONE : areUnlike ? KIND : BEYOND;
        long i = Math.max(LENGTHS[state][s], 0);
        long j = Math.max(LENGTHS[state][t], 0);
        long[][] none = {{i, 0, 1}, {0, j, 1}, {i + 1, 0, 0}, {0, j + 1, 0}, {-1, 0, 1}, {0, -1, 1}, {0, 0, -1}, {0, 0, i + 1}, {0, 0, j + 1},
            {MOST, 0, MOST}, {0, MOST, MOST}, {LEAST, 0, LEAST}, {0, LEAST, LEAST}, {1, 1, MOST}, {LEAST, 0, 0}, {0, LEAST, 0}};
        for (long[] n : none) calls.add(new Call(due, "move", s, n[0], t, n[1], n[2]));
        if (due != BEYOND) calls.add(new Call(due, "move", s, 0, t, 0, 0));
      }
    }
  }

  private static void refusedFresh(List<Call> calls) {
    calls.add(new Call(NONE, "restore"));
    for (long i : new long[] {0, -1, 1, 40, LEAST, MOST}) calls.add(new Call(NONE, "trace", i));
    for (int set : new int[] {0, 1, 253}) calls.add(new Call(NONE, "road", 0, 35, set));
    calls.add(new Call(NONE, "road", 0, 0, 253));
  }

  private static void refusedMiddle(List<Call> calls) {
    int[][] kinds = {{0, 2}, {0, 3}, {0, 4}, {0, 5}, {0, 6}, {1, 1}, {1, 2}, {1, 4}, {1, 5}, {1, 6}, {2, 1}, {2, 3}, {2, 4}, {2, 6}};
    for (int[] k : kinds) calls.add(new Call(KIND, "as", k[0], k[1]));
    for (long i : new long[] {-1, 6, 40, LEAST, MOST}) calls.add(new Call(NONE, "trace", i));
    for (int k = 0; k < KNOTS; k += 7) calls.add(new Call(NONE, "road", k, k, 0));
  }

  private static void refusedFilled(List<Call> calls) {
    for (int km = 0; km <= 69; km += 23) for (int k = 0; k < KNOTS; k += 7) calls.add(new Call(FULL, "walker", km, k));
    for (int n = 1; n <= 8; n++) calls.add(new Call(FULL, "feed", n, n));
    for (long v : any()) calls.add(new Call(FULL, "tell", v));
    for (int n : new int[] {1, 2, 99, 100}) calls.add(new Call(STATE, "days", n));
    for (int n : new int[] {1, 2, 39, 40}) calls.add(new Call(STATE, "loose", n));
    for (long i : new long[] {-1, 9, 40, LEAST, MOST}) calls.add(new Call(NONE, "trace", i));
  }

  // ---- what is only thought

  private static List<Call> thought(int state) {
    List<Call> calls = new ArrayList<>();
    for (int k = 0; k < KNOTS; k += 5) {
      for (int what = 0; what <= 5; what++) calls.add(new Call(0, "ofKnot", k, what));
      calls.add(new Call(0, "nextTo", k));
      for (int n = 1; n <= 3; n++) for (int what = -1; what < n; what++) calls.add(new Call(0, "dyed", k, n, what));
      calls.add(new Call(0, "road", k, k, 255));
      calls.add(new Call(0, "road", k, (k + 1) % KNOTS, 255));
    }
    for (int w = 0; w < WALKERS[state]; w++) {
      for (int what = 0; what <= 5; what++) calls.add(new Call(0, "ofWalker", w, what));
      for (int n : new int[] {0, 1, 2, 99, 100}) for (int what = 0; what <= 1; what++) calls.add(new Call(0, "then", n, w, what));
      calls.add(new Call(0, "as", w, 0));
    }
    for (long a : any()) for (int use = 0; use <= 1; use++) calls.add(new Call(0, "law", use, a, a, a));
    for (int colour = -1; colour <= 7; colour++) calls.add(new Call(0, "lands", colour));
    for (int colour = 1; colour <= 7; colour++) {
      calls.add(new Call(0, "mends", colour));
      calls.add(new Call(0, "frontier", 0, colour));
    }
    for (String call : new String[] {"greatest", "again", "cut"}) for (int what = 0; what <= 1; what++) calls.add(new Call(0, call, what));
    for (String call : new String[] {"slips", "stays"}) calls.add(new Call(0, call));
    for (int what = 0; what <= 8; what++) calls.add(new Call(0, "count", what));
    for (int k = 1; k <= 5; k++) calls.add(new Call(0, "told", k));
    for (int s = 0; s < 4; s++) if (LENGTHS[state][s] >= 0) calls.add(new Call(0, "judge", s));
    if (state == MIDDLE) {
      for (int what = 0; what <= 1; what++) calls.add(new Call(0, "layings", 0, what));
      for (int rows = -5; rows <= 5; rows += 5) calls.add(new Call(0, "fits", 0, rows, 0));
    }
    if (state != FRESH) calls.add(new Call(0, "trace", 0));
    return calls;
  }
}
