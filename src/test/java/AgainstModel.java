import java.util.ArrayDeque;
import java.util.ArrayList;
import java.util.Arrays;
import java.util.HashMap;
import java.util.List;
import java.util.Map;
import java.util.Random;
import java.util.TreeSet;

/**
 * Plays long runs of drawn calls (the draws always the same) on the class and on a second, plain reading of
 * the document, and tells every call that the two answer unlike.
 */
public final class AgainstModel {
  private static final int RUNS = 1500;
  private static final int CALLS = 512;
  private static int wrong = 0;

  public static void main(String[] args) {
    for (int run = 0; run < RUNS && wrong < 10; run++) new Run(run).play();
    allShortTexts();
    System.out.println(wrong == 0 ? "the class and the model agree" : wrong + " answers differ");
    if (wrong != 0) System.exit(1);
  }

  private static void due(String call, long got, long want) {
    if (got == want) return;
    wrong++;
    System.out.println(call + " answered " + got + ", the model " + want);
  }

  /** Every text of up to six signs of a small alphabet, for the place of its fault. */
  private static void allShortTexts() {
    String alphabet = "1r+<&!()";
    for (int length = 0; length <= 6; length++) {
      int all = 1;
      for (int i = 0; i < length; i++) all *= alphabet.length();
      for (int number = 0; number < all; number++) {
        StringBuilder b = new StringBuilder();
        for (int i = 0, rest = number; i < length; i++, rest /= alphabet.length()) b.append(alphabet.charAt(rest % alphabet.length()));
        if (wrong < 10) oneText(b.toString());
      }
    }
  }

  private static void oneText(String text) {
    CarpetLands x = new CarpetLands();
    Model y = new Model();
    if (!text.isEmpty()) {
      long word = 0;
      for (int i = 0; i < text.length(); i++) word |= (long) text.charAt(i) << (8 * i);
      x.feed(word, text.length());
      y.feed(word, text.length());
    }
    due("text(0) of " + text, x.text(0), y.text(0));
    due("law(0, 5, 3, 2) of " + text, x.law(0, 5, 3, 2), y.law(0, 5, 3, 2));
  }

  /** One run of drawn calls. */
  private static final class Run {
    private final Random random;
    private final CarpetLands x = new CarpetLands();
    private final Model y = new Model();
    private final List<String> calls = new ArrayList<>();
    private final int run;
    private final int hues;
    private boolean differs = false;

    Run(int run) {
      this.run = run;
      random = new Random(run);
      hues = 2 + run % 7;
    }

    private int in(int least, int most) {
      return least + random.nextInt(most - least + 1);
    }

    /** Mostly within, sometimes just outside, seldom any number. */
    private int near(int least, int most) {
      int dice = random.nextInt(40);
      if (dice == 0) return least - 1;
      if (dice == 1) return most + 1;
      if (dice == 2) return random.nextBoolean() ? random.nextInt() : random.nextBoolean() ? Integer.MIN_VALUE : Integer.MAX_VALUE;
      return in(least, most);
    }

    private void say(String call, long got, long want) {
      calls.add(call);
      if (got == want) return;
      differs = true;
      due("run " + run + ", call " + calls.size() + ": " + call, got, want);
    }

    void play() {
      if (run % 3 != 0) {
        layDrawnCarpet(0);
        for (int i = 0; i < 4; i++) addWalker();
      }
      while (calls.size() < CALLS && !differs) {
        int dice = random.nextInt(100);
        if (dice < 6) layDrawnCarpet(random.nextInt(3));
        else if (dice < 12) feedText();
        else if (dice < 16) fillSheet(random.nextInt(3));
        else drawnCall();
      }
    }

    private void addWalker() {
      int km = near(0, 69), knot = near(0, 35);
      say("walker " + km + " " + knot, x.walker(km, knot), y.walker(km, knot));
    }

    private void makeSheet(int s, int bits, int n) {
      say("sheet " + s + " " + bits + " " + n, x.sheet(s, bits, n), y.sheet(s, bits, n));
    }

    private void writeSheet(int s, int i, int v) {
      say("write " + s + " " + i + " " + v, x.write(s, i, v), y.write(s, i, v));
    }

    private void fillSheet(int s) {
      makeSheet(s, 8 << random.nextInt(3), random.nextInt(4) == 0 ? near(0, 40) : 36);
      int some = random.nextInt(14);
      for (int i = 0; i < some; i++) writeSheet(s, in(0, 35), in(0, hues - 1));
      if (random.nextInt(5) == 0) writeSheet(s, in(0, 39), random.nextInt());
    }

    private void layDrawnCarpet(int s) {
      makeSheet(s, 32, 36);
      int high = 1 + random.nextInt(6), wide = 1 + random.nextInt(6), holes = random.nextInt(3);
      int[] tile = new int[36];
      for (int i = 0; i < 36; i++) tile[i] = random.nextInt(hues);
      boolean mirrored = random.nextBoolean();
      for (int i = 0; i < 36; i++) {
        int row = i / 6, column = i % 6;
        if (mirrored && run % 2 == 0) { int least = Math.min(row, column); column = Math.max(row, column); row = least; }
        else if (mirrored) { row = Math.min(row, 5 - row); column = Math.min(column, 5 - column); }
        int colour = random.nextInt(12) < holes ? 0 : tile[row % high * 6 + column % wide];
        if (colour != 0) writeSheet(s, i, colour);
      }
      say("colours " + s, x.colours(s), y.colours(s));
    }

    private String drawnText(int depth) {
      if (depth == 0 || random.nextInt(4) == 0) {
        int dice = random.nextInt(6);
        if (dice < 3) return "" + "rcdkwc".charAt(random.nextInt(6));
        return "" + random.nextInt(dice == 3 ? 10 : dice == 4 ? 3 : 10000);
      }
      int dice = random.nextInt(8);
      if (dice == 0) return "!" + drawnText(depth - 1);
      if (dice == 1) return "(" + drawnText(depth - 1) + ")";
      return drawnText(depth - 1) + "|&<=>+-*/%".charAt(random.nextInt(10)) + drawnText(depth - 1);
    }

    private void feedText() {
      int use = near(0, 1);
      StringBuilder b = new StringBuilder(drawnText(1 + random.nextInt(4)));
      for (int i = 0; i < b.length(); i++) {
        if (use == 0 && (b.charAt(i) == 'k' || b.charAt(i) == 'w')) b.setCharAt(i, random.nextBoolean() ? 'r' : 'd');
        if (use == 1 && (b.charAt(i) == 'r' || b.charAt(i) == 'd')) b.setCharAt(i, random.nextBoolean() ? 'k' : 'w');
      }
      if (random.nextInt(3) == 0) b.setCharAt(random.nextInt(b.length()), "0123456789rcdkw|&<=>+-*/%!() x\0\u00e9\u00ff".charAt(random.nextInt(33)));
      if (random.nextInt(4) == 0) b.insert(random.nextInt(b.length()), "!((!(!".substring(random.nextInt(6)));
      if (random.nextInt(6) == 0) b.setLength(random.nextInt(b.length() + 1));
      for (int i = 0; i < b.length(); i += 8) {
        long word = random.nextInt(2) == 0 ? random.nextLong() : 0;
        int n = Math.min(8, b.length() - i);
        if (n < 8) word = word >>> (8 * n) << (8 * n);
        else word = 0;
        for (int j = 0; j < n; j++) word |= (long) b.charAt(i + j) << (8 * j);
        say("feed " + word + " " + n, x.feed(word, n), y.feed(word, n));
      }
      say("text " + use + " " + b, x.text(use), y.text(use));
    }

    private void drawnCall() {
      int a, b, c, d, e;
      switch (random.nextInt(49)) {
        case 0: a = near(0, 35); b = near(0, 1); c = b == 0 ? near(0, 7) : near(0, 99); say("knot " + a + " " + b + " " + c, x.knot(a, b, c), y.knot(a, b, c)); break;
        case 1: case 2: a = near(0, 35); b = near(0, 5); say("ofKnot " + a + " " + b, x.ofKnot(a, b), y.ofKnot(a, b)); break;
        case 3: if (random.nextInt(3) == 0) say("weave", x.weave(), y.weave()); break;
        case 4: if (random.nextInt(3) == 0) say("mend", x.mend(), y.mend()); break;
        case 5: addWalker(); break;
        case 6: case 7: a = near(0, 4); b = near(0, 5); say("ofWalker " + a + " " + b, x.ofWalker(a, b), y.ofWalker(a, b)); break;
        case 8: a = near(0, 4); b = near(0, 35); c = near(0, 3); say("put " + a + " " + b + " " + c, x.put(a, b, c), y.put(a, b, c)); break;
        case 9: a = near(0, 4); b = near(0, 69); say("become " + a + " " + b, x.become(a, b), y.become(a, b)); break;
        case 10: a = near(0, 4); b = near(0, 6); say("as " + a + " " + b, x.as(a, b), y.as(a, b)); break;
        case 11: a = near(1, 8); long word = random.nextLong(); say("feed " + word + " " + a, x.feed(word, a), y.feed(word, a)); break;
        case 12: a = near(0, 1); say("text " + a, x.text(a), y.text(a)); break;
        case 13: case 14: a = near(0, 1); b = near(-20, 20); c = near(-20, 20); d = near(-20, 20); say("law " + a + " " + b + " " + c + " " + d, x.law(a, b, c, d), y.law(a, b, c, d)); break;
        case 15: a = run % 5 == 0 ? near(50, 100) : near(1, random.nextBoolean() ? 4 : 100); say("days " + a, x.days(a), y.days(a)); break;
        case 16: a = near(1, random.nextBoolean() ? 4 : 40); say("loose " + a, x.loose(a), y.loose(a)); break;
        case 17: a = near(-1, 7); say("lands " + a, x.lands(a), y.lands(a)); break;
        case 18: a = near(0, 1); say("greatest " + a, x.greatest(a), y.greatest(a)); break;
        case 19: a = near(0, 35); say("nextTo " + a, x.nextTo(a), y.nextTo(a)); break;
        case 20: a = near(0, 7); b = near(0, 7); say("frontier " + a + " " + b, x.frontier(a, b), y.frontier(a, b)); break;
        case 21: say("slips", x.slips(), y.slips()); break;
        case 22: a = near(1, 7); say("mends " + a, x.mends(a), y.mends(a)); break;
        case 23: case 24: a = near(0, 1); say("again " + a, x.again(a), y.again(a)); break;
        case 25: say("stays", x.stays(), y.stays()); break;
        case 26: case 27: a = near(0, 35); b = near(0, 35); c = random.nextBoolean() ? near(0, 255) : 255; say("road " + a + " " + b + " " + c, x.road(a, b, c), y.road(a, b, c)); break;
        case 28: a = near(0, 3); b = near(-5, 5); c = near(-5, 5); say("fits " + a + " " + b + " " + c, x.fits(a, b, c), y.fits(a, b, c)); break;
        case 29: case 30: a = near(0, 3); b = near(0, 1); say("layings " + a + " " + b, x.layings(a, b), y.layings(a, b)); break;
        case 31: a = near(0, 1); say("cut " + a, x.cut(a), y.cut(a)); break;
        case 32: a = near(0, 35); b = near(1, random.nextInt(4) == 0 ? 3 : 2); c = near(-1, Math.max(1, Math.min(b, 3)) - 1); say("dyed " + a + " " + b + " " + c, x.dyed(a, b, c), y.dyed(a, b, c)); break;
        case 33: case 34: a = near(0, 100); b = near(0, 4); c = near(0, 1); say("then " + a + " " + b + " " + c, x.then(a, b, c), y.then(a, b, c)); break;
        case 35: a = random.nextInt(); say("seed " + a, x.seed(a), y.seed(a)); break;
        case 36: case 37: a = near(0, 4); b = near(0, 3); c = random.nextBoolean() ? in(-9, 9) : random.nextInt(); say("voice " + a + " " + b + " " + c, x.voice(a, b, c), y.voice(a, b, c)); break;
        case 38: a = near(0, 9); say("trace " + a, x.trace(a), y.trace(a)); break;
        case 39: a = near(0, 3); b = random.nextInt(8) == 0 ? near(0, 40) : 8 * (1 << random.nextInt(3)) * random.nextInt(2); c = near(0, 40); makeSheet(a, b, c); break;
        case 40: a = near(0, 3); b = near(0, 39); c = random.nextBoolean() ? in(0, 8) : random.nextInt(); writeSheet(a, b, c); break;
        case 41: a = near(0, 3); b = near(0, 12); c = near(0, 3); d = near(0, 12); e = near(0, 30); if (random.nextInt(3) == 0) c = a; say("move " + a + " " + b + " " + c + " " + d + " " + e, x.move(a, b, c, d, e), y.move(a, b, c, d, e)); break;
        case 42: a = near(0, 3); say("colours " + a, x.colours(a), y.colours(a)); break;
        case 43: a = near(0, 3); say("judge " + a, x.judge(a), y.judge(a)); break;
        case 44: say("image", x.image(), y.image()); break;
        case 45: if (random.nextInt(3) == 0) say("restore", x.restore(), y.restore()); break;
        case 46: tellAndCheck(); break;
        case 47: a = near(0, 8); say("count " + a, x.count(a), y.count(a)); break;
        default: a = near(1, 5); say("told " + a, x.told(a), y.told(a)); break;
      }
    }

    private void tellAndCheck() {
      int n = random.nextInt(random.nextInt(4) == 0 ? 25 : 5);
      for (int i = 1; i <= n; i++) {
        // Mostly what is so, so that check() gets beyond the first place.
        int v = random.nextInt(8) == 0 ? random.nextInt(36) : y.holesBehind(y.waiting.size() + 1);
        say("tell " + v, x.tell(v), y.tell(v));
      }
      if (random.nextInt(4) != 0) say("check", x.check(), y.check());
    }
  }

  /** The document, read plainly. */
  private static final class Model {
    static final int LOW = -1000000000;
    static final String[] SUPER = {"", "WALKER", "WALKER", "WALKER", "CAT", "BOOT", "MOTH"};
    static final List<String> NAMES = Arrays.asList("WALKER", "CAT", "BOOT", "MOTH", "DYNASTY", "ARMY", "SWARM");
    static final int[] DOWN = {-1, 0, 1, 0};
    static final int[] RIGHT = {0, 1, 0, -1};

    int[][] colour = new int[6][6];
    int[][] wear = new int[6][6];
    int day = 0;
    int z = 1;
    List<int[]> walkers = new ArrayList<>(); // kind, m, row, column, way
    List<Integer> tape = new ArrayList<>();
    String[] texts = new String[2];
    List<Integer> waiting = new ArrayList<>();
    List<Integer> trace = new ArrayList<>();
    long[][] sheets = new long[4][];
    int[] bits = new int[4];
    Map<Integer, Integer> told = new HashMap<>();
    Model image;
    int images = 0;

    Model() {
      for (int[] row : colour) Arrays.fill(row, 1);
    }

    /** What an image has of this. */
    Model copy() {
      Model m = new Model();
      m.take(this);
      return m;
    }

    void take(Model o) {
      for (int i = 0; i < 6; i++) { colour[i] = o.colour[i].clone(); wear[i] = o.wear[i].clone(); }
      day = o.day;
      z = o.z;
      walkers = new ArrayList<>();
      for (int[] w : o.walkers) walkers.add(w.clone());
      tape = new ArrayList<>(o.tape);
      texts = o.texts.clone();
      waiting = new ArrayList<>(o.waiting);
    }

    int error(int k) {
      told.merge(k, 1, Integer::sum);
      return LOW - k;
    }

    boolean out(int v, int least, int most) { return v < least || v > most; }
    boolean noWalker(int w) { return w < 0 || w >= walkers.size(); }

    int knot(int k, int what, int v) {
      if (out(k, 0, 35) || out(what, 0, 1) || out(v, 0, what == 0 ? 7 : 99)) return error(1);
      int[][] of = what == 0 ? colour : wear;
      int was = of[k / 6][k % 6];
      of[k / 6][k % 6] = v;
      return was;
    }

    TreeSet<Integer> land(int[][] of, int k) {
      TreeSet<Integer> land = new TreeSet<>();
      ArrayDeque<Integer> open = new ArrayDeque<>();
      open.add(k);
      land.add(k);
      while (!open.isEmpty()) {
        int at = open.poll();
        for (int w = 0; w < 4; w++) {
          int r = at / 6 + DOWN[w], c = at % 6 + RIGHT[w];
          if (out(r, 0, 5) || out(c, 0, 5) || of[r][c] != of[k / 6][k % 6]) continue;
          if (land.add(r * 6 + c)) open.add(r * 6 + c);
        }
      }
      return land;
    }

    int pattern(int k) { return law(0, k / 6, k % 6, day); }
    int worth(int k) { return law(1, colour[k / 6][k % 6], wear[k / 6][k % 6], k % 6); }

    int ofKnot(int k, int what) {
      if (out(k, 0, 35) || out(what, 0, 5)) return error(1);
      int[] all = {colour[k / 6][k % 6], wear[k / 6][k % 6], pattern(k), worth(k), land(colour, k).size(), land(colour, k).first()};
      return all[what];
    }

    int weave() {
      int n = slips();
      for (int k = 0; k < 36; k++) { colour[k / 6][k % 6] = pattern(k); wear[k / 6][k % 6] = 0; }
      return n;
    }

    int holes() {
      int n = 0;
      for (int[] row : colour) for (int c : row) if (c == 0) n++;
      return n;
    }

    int mend() {
      int n = holes();
      for (int k = 0; k < 36; k++) if (colour[k / 6][k % 6] == 0) colour[k / 6][k % 6] = pattern(k);
      return n;
    }

    int walker(int km, int k) {
      if (out(km, 0, 69) || out(k, 0, 35)) return error(1);
      if (walkers.size() == 5) return error(4);
      walkers.add(new int[] {km / 10, km % 10, k / 6, k % 6, 1});
      return walkers.size() - 1;
    }

    /** The kind by name and all those above it, the kind itself first. */
    List<String> line(int kind) {
      List<String> line = new ArrayList<>();
      for (String name = NAMES.get(kind); !name.isEmpty(); name = SUPER[NAMES.indexOf(name)]) line.add(name);
      return line;
    }

    int wears(int[] w) {
      for (String name : line(w[0])) {
        if (name.equals("ARMY")) return 3 + w[1];
        if (name.equals("BOOT")) return 3;
        if (name.equals("MOTH")) return 0;
      }
      return 1;
    }

    boolean eats(int[] w) {
      for (String name : line(w[0])) {
        if (name.equals("SWARM")) return true;
        if (name.equals("MOTH")) return wear[w[2]][w[3]] >= w[1] * 10;
      }
      return false;
    }

    int ofWalker(int n, int what) {
      if (noWalker(n) || out(what, 0, 5)) return error(1);
      int[] w = walkers.get(n);
      int[] all = {w[0], w[1], w[2] * 6 + w[3], w[4], wears(w), eats(w) ? 1 : 0};
      return all[what];
    }

    int put(int n, int k, int way) {
      if (noWalker(n) || out(k, 0, 35) || out(way, 0, 3)) return error(1);
      int[] w = walkers.get(n);
      int was = w[2] * 6 + w[3];
      w[2] = k / 6;
      w[3] = k % 6;
      w[4] = way;
      return was;
    }

    int become(int n, int km) {
      if (noWalker(n) || out(km, 0, 69)) return error(1);
      int was = walkers.get(n)[0];
      walkers.get(n)[0] = km / 10;
      walkers.get(n)[1] = km % 10;
      return was;
    }

    int as(int n, int kind) {
      if (noWalker(n) || out(kind, 0, 6)) return error(1);
      return line(walkers.get(n)[0]).contains(NAMES.get(kind)) ? walkers.get(n)[1] : error(5);
    }

    int feed(long word, int n) {
      if (out(n, 1, 8)) return error(1);
      if (tape.size() + n > 50) return error(4);
      for (int i = 0; i < n; i++) tape.add((int) ((word >> (8 * i)) & 0xff));
      return tape.size();
    }

    int text(int use) {
      if (out(use, 0, 1)) return error(1);
      StringBuilder b = new StringBuilder();
      for (int t : tape) b.append((char) t);
      tape.clear();
      int fault = fault(b.toString(), use == 0 ? "rcd" : "kwc");
      if (fault >= 0) return -10 - fault;
      texts[use] = b.toString();
      return 1;
    }

    /** By a heap of what is open instead of by the grammar's own levels. */
    int fault(String t, String names) {
      StringBuilder open = new StringBuilder(); // '!' and '(' that are open
      StringBuilder compared = new StringBuilder("n"); // for each ( and all around: y if a comparison stands
      boolean wanted = true; // a Q is wanted next
      for (int i = 0; i < t.length(); i++) {
        char c = t.charAt(i);
        if (wanted) {
          if (c == '!' || c == '(') {
            if (open.length() == 5) return i;
            open.append(c);
            if (c == '(') compared.append('n');
            continue;
          }
          if (names.indexOf(c) < 0 && !(c >= '0' && c <= '9')) return i;
          for (int digits = 1; c >= '0' && c <= '9' && digits < 4 && i + 1 < t.length() && t.charAt(i + 1) >= '0' && t.charAt(i + 1) <= '9'; digits++) i++;
          wanted = false;
        } else if (c == ')') {
          if (open.indexOf("(") < 0) return i;
          open.setLength(open.length() - 1);
          compared.setLength(compared.length() - 1);
        } else if ("|&<=>+-*/%".indexOf(c) >= 0) {
          int last = compared.length() - 1;
          if ("<=>".indexOf(c) >= 0) {
            if (compared.charAt(last) == 'y') return i;
            compared.setCharAt(last, 'y');
          }
          if (c == '|' || c == '&') compared.setCharAt(last, 'n');
          wanted = true;
        } else return i;
        while (!wanted && open.length() > 0 && open.charAt(open.length() - 1) == '!') open.setLength(open.length() - 1);
      }
      return wanted || open.length() > 0 ? t.length() : -1;
    }

    /** By two heaps, of numbers and of operators. */
    int value(String t, String names, int[] of) {
      ArrayDeque<Integer> values = new ArrayDeque<>();
      ArrayDeque<Character> signs = new ArrayDeque<>();
      for (int i = 0; i < t.length(); i++) {
        char c = t.charAt(i);
        if (c >= '0' && c <= '9') {
          int from = i;
          while (i + 1 < t.length() && Character.isDigit(t.charAt(i + 1))) i++;
          values.push(Integer.parseInt(t.substring(from, i + 1)));
        } else if (names.indexOf(c) >= 0) {
          values.push(of[names.indexOf(c)]);
        } else if (c == '!' || c == '(') {
          signs.push(c);
        } else if (c == ')') {
          while (signs.peek() != '(') apply(values, signs.pop());
          signs.pop();
        } else {
          while (!signs.isEmpty() && signs.peek() != '(' && rank(signs.peek()) >= rank(c)) apply(values, signs.pop());
          signs.push(c);
        }
      }
      while (!signs.isEmpty()) apply(values, signs.pop());
      return values.pop();
    }

    int rank(char c) {
      return "|&<=>+-*/%!".indexOf(c) <= 1 ? "|&".indexOf(c) : "<=>".indexOf(c) >= 0 ? 2 : "+-".indexOf(c) >= 0 ? 3 : c == '!' ? 5 : 4;
    }

    void apply(ArrayDeque<Integer> values, char c) {
      int y = values.pop();
      if (c == '!') { values.push(y == 0 ? 1 : 0); return; }
      int x = values.pop();
      boolean truth = c == '|' ? x != 0 | y != 0 : c == '&' ? x != 0 & y != 0 : c == '<' ? x < y : c == '=' ? x == y : x > y;
      long result = c == '+' ? (long) x + y : c == '-' ? (long) x - y : c == '*' ? (long) x * y
          : c == '/' ? (y == 0 ? 0 : (long) x / y) : c == '%' ? (y == 0 ? 0 : (long) x % y) : truth ? 1 : 0;
      values.push((int) result);
    }

    int law(int use, int a, int b, int c) {
      if (out(use, 0, 1)) return error(1);
      String t = texts[use];
      if (t == null) t = use == 0 ? "r+c" : "k";
      int v = value(t, use == 0 ? "rcd" : "kwc", new int[] {a, b, c});
      if (use == 0) return (int) (((v % 7L) + 7) % 7) + 1;
      return v < 0 ? 0 : v > 99 ? 99 : v;
    }

    boolean there(int r, int c) { return !out(r, 0, 5) && !out(c, 0, 5); }

    void step(int[] w) {
      String kind = NAMES.get(w[0]);
      switch (kind) {
        case "WALKER": walk(w); break;
        case "BOOT": case "ARMY": walk(w); walk(w); break;
        case "MOTH": case "SWARM": flutter(w); break;
        case "DYNASTY": if (day % 2 == 1) break; prowl(w); break;
        default: prowl(w);
      }
    }

    void walk(int[] w) {
      while (!there(w[2] + DOWN[w[4]], w[3] + RIGHT[w[4]])) w[4] = w[4] == 3 ? 0 : w[4] + 1;
      w[2] += DOWN[w[4]];
      w[3] += RIGHT[w[4]];
    }

    void prowl(int[] w) {
      int[] tries = {w[4], w[4] == 3 ? 0 : w[4] + 1, w[4] == 0 ? 3 : w[4] - 1, (w[4] + 2) % 4};
      for (int t : tries) {
        int r = w[2] + DOWN[t], c = w[3] + RIGHT[t];
        if (there(r, c) && colour[r][c] == colour[w[2]][w[3]]) { w[2] = r; w[3] = c; w[4] = t; return; }
      }
    }

    void flutter(int[] w) {
      int way = -1;
      for (int t = 3; t >= 0; t--) {
        int r = w[2] + DOWN[t], c = w[3] + RIGHT[t];
        if (there(r, c) && (way < 0 || colour[r][c] >= colour[w[2] + DOWN[way]][w[3] + RIGHT[way]])) way = t;
      }
      w[4] = way;
      w[2] += DOWN[way];
      w[3] += RIGHT[way];
    }

    void aDay() {
      for (int[] w : walkers) {
        step(w);
        wear[w[2]][w[3]] = Math.min(99, wear[w[2]][w[3]] + wears(w));
        if (eats(w)) colour[w[2]][w[3]] = 0;
      }
      day++;
    }

    int days(int n) {
      if (out(n, 1, 100)) return error(1);
      if (day + n > 9999) return error(3);
      for (int i = 0; i < n; i++) aDay();
      return holes();
    }

    int draw() {
      z = (int) (z * 1103515245L + 12345L);
      return (int) ((z & 0xffffffffL) >> 8);
    }

    int loose(int n) {
      if (out(n, 1, 40)) return error(1);
      if (day + n > 9999) return error(3);
      for (int i = 0; i < n; i++) {
        int k = draw() % 36, c = draw() % 8;
        colour[k / 6][k % 6] = c;
        aDay();
      }
      return holes();
    }

    int lands(int c) {
      if (out(c, -1, 7)) return error(1);
      int n = 0;
      for (int k = 0; k < 36; k++) {
        int own = colour[k / 6][k % 6];
        if ((c == -1 ? own != 0 : own == c) && land(colour, k).first() == k) n++;
      }
      return n;
    }

    int greatest(int what) {
      if (out(what, 0, 1)) return error(1);
      int most = 0, least = -1;
      for (int k = 35; k >= 0; k--) {
        if (colour[k / 6][k % 6] == 0 || land(colour, k).first() != k || land(colour, k).size() < most) continue;
        most = land(colour, k).size();
        least = k;
      }
      return least < 0 ? error(2) : what == 0 ? most : least;
    }

    int nextTo(int k) {
      if (out(k, 0, 35)) return error(1);
      TreeSet<Integer> land = land(colour, k);
      int set = 0;
      for (int l : land) for (int w = 0; w < 4; w++) {
        int r = l / 6 + DOWN[w], c = l % 6 + RIGHT[w];
        if (there(r, c) && !land.contains(r * 6 + c)) set |= 1 << colour[r][c];
      }
      return set;
    }

    int frontier(int a, int b) {
      if (out(a, 0, 7) || out(b, 0, 7) || a == b) return error(1);
      int n = 0;
      for (int r = 0; r < 6; r++) for (int c = 0; c < 6; c++) for (int w = 1; w < 3; w++) {
        if (!there(r + DOWN[w], c + RIGHT[w])) continue;
        int p = colour[r][c], q = colour[r + DOWN[w]][c + RIGHT[w]];
        if (p == a && q == b || p == b && q == a) n++;
      }
      return n;
    }

    int slips() {
      int n = 0;
      for (int k = 0; k < 36; k++) if (colour[k / 6][k % 6] != 0 && colour[k / 6][k % 6] != pattern(k)) n++;
      return n;
    }

    int mends(int c) {
      if (out(c, 1, 7)) return error(1);
      int n = 0;
      for (int k = 0; k < 36; k++) if (colour[k / 6][k % 6] == 0 && pattern(k) == c) n++;
      return n;
    }

    int again(int what) {
      if (out(what, 0, 1)) return error(1);
      for (int p = 1; ; p++) {
        boolean all = true;
        for (int i = 0; i < 6; i++) for (int j = 0; j < 6; j++) for (int l = 0; l < 6; l++) {
          if (l - j != p) continue;
          int a = what == 0 ? colour[i][j] : colour[j][i], b = what == 0 ? colour[i][l] : colour[l][i];
          if (a != b && a != 0 && b != 0) all = false;
        }
        if (all) return p;
      }
    }

    int[][] quarter(int[][] of) {
      int[][] to = new int[6][6];
      for (int r = 0; r < 6; r++) for (int c = 0; c < 6; c++) to[c][5 - r] = of[r][c];
      return to;
    }

    int stays() {
      int set = 0;
      for (int t = 0; t < 8; t++) {
        int[][] turned = new int[6][6];
        for (int r = 0; r < 6; r++) for (int c = 0; c < 6; c++) turned[r][t < 4 ? c : 5 - c] = colour[r][c];
        for (int i = 0; i < t % 4; i++) turned = quarter(turned);
        if (Arrays.deepEquals(turned, colour)) set |= 1 << t;
      }
      return set;
    }

    int road(int from, int to, int set) {
      if (out(from, 0, 35) || out(to, 0, 35) || out(set, 0, 255)) return error(1);
      if ((set >> colour[from / 6][from % 6]) % 2 == 0 || (set >> colour[to / 6][to % 6]) % 2 == 0) return error(2);
      Map<List<Integer>, Integer> steps = new HashMap<>();
      ArrayDeque<List<Integer>> open = new ArrayDeque<>();
      open.add(Arrays.asList(from, -1));
      steps.put(open.peek(), 0);
      while (!open.isEmpty()) {
        List<Integer> at = open.poll();
        if (at.get(0) == to) return steps.get(at);
        for (int w = 0; w < 4; w++) {
          int r = at.get(0) / 6 + DOWN[w], c = at.get(0) % 6 + RIGHT[w];
          if (w == at.get(1) || !there(r, c) || (set >> colour[r][c]) % 2 == 0) continue;
          List<Integer> next = Arrays.asList(r * 6 + c, w);
          if (steps.putIfAbsent(next, steps.get(at) + 1) == null) open.add(next);
        }
      }
      return error(2);
    }

    boolean carpet(int s) {
      if (sheets[s] == null || sheets[s].length != 36) return false;
      for (long v : sheets[s]) if (v < 0 || v > 7) return false;
      return true;
    }

    boolean fit(int s, int rows, int columns) {
      for (int r = 0; r < 6; r++) for (int c = 0; c < 6; c++) {
        if (!there(r - rows, c - columns)) continue;
        long upper = sheets[s][(r - rows) * 6 + c - columns];
        if (upper != 0 && colour[r][c] != 0 && upper != colour[r][c]) return false;
      }
      return true;
    }

    int fits(int s, int rows, int columns) {
      if (out(s, 0, 3) || out(rows, -5, 5) || out(columns, -5, 5)) return error(1);
      if (!carpet(s)) return error(2);
      return fit(s, rows, columns) ? 1 : 0;
    }

    int layings(int s, int what) {
      if (out(s, 0, 3) || out(what, 0, 1)) return error(1);
      if (!carpet(s)) return error(2);
      int n = 0, most = 0, best = -1;
      for (int rows = -5; rows <= 5; rows++) for (int columns = -5; columns <= 5; columns++) {
        if (!fit(s, rows, columns)) continue;
        n++;
        int over = 0;
        for (int k = 0; k < 36; k++) if (there(k / 6 + rows, k % 6 + columns)) over++;
        if (over > most) { most = over; best = 100 * (rows + 5) + columns + 5; }
      }
      return what == 0 ? n : best < 0 ? error(2) : best;
    }

    int cut(int what) {
      if (out(what, 0, 1)) return error(1);
      int best = 4, least = Integer.MAX_VALUE;
      for (int behind = 4; behind >= 0; behind--) {
        int left = 0, right = 0;
        for (int k = 0; k < 36; k++) { if (k % 6 <= behind) left += worth(k); else right += worth(k); }
        if (Math.abs(left - right) <= least) { least = Math.abs(left - right); best = behind; }
      }
      return what == 0 ? best : least;
    }

    int dyed(int k, int n, int what) {
      if (out(k, 0, 35) || out(n, 1, 3) || out(what, -1, n - 1)) return error(1);
      int most = 0;
      int[] first = null;
      int all = n == 1 ? 7 : n == 2 ? 49 : 343;
      for (int number = 0; number < all; number++) {
        int[] row = {number % 7 + 1, 0, 0};
        if (n == 2) row = new int[] {number / 7 + 1, number % 7 + 1, 0};
        if (n == 3) row = new int[] {number / 49 + 1, number / 7 % 7 + 1, number % 7 + 1};
        int[][] of = new int[6][];
        for (int i = 0; i < 6; i++) of[i] = colour[i].clone();
        for (int i = 0; i < n; i++) for (int l : land(of, k)) of[l / 6][l % 6] = row[i];
        int size = land(of, k).size();
        if (size > most) { most = size; first = row; }
      }
      return what < 0 ? most : first[what];
    }

    int then(int n, int w, int what) {
      if (out(n, 0, 100) || noWalker(w) || out(what, 0, 1)) return error(1);
      Model m = copy();
      for (int i = 0; i < n; i++) m.aDay();
      int[] of = m.walkers.get(w);
      return what == 0 ? of[2] * 6 + of[3] : of[4];
    }

    int seed(int v) { int was = z; z = v; return was; }

    /** Bodies by real classes with real calls of super. */
    class V {
      final int n, m;
      V(int n, int m) { this.n = n; this.m = m; }
      int b(int number) { if (trace.size() < 40) trace.add(number); return 0; }
      int walks(int x) { b(10); return x + n; }
      int wears(int x) { b(11); return walks(x) * 2; }
      int eats(int x) { b(12); return x - m; }
      int tells(int x) { b(13); return wears(x) ^ eats(x); }
    }
    class Cat extends V {
      Cat(int n, int m) { super(n, m); }
      int walks(int x) { b(20); return super.walks(x) * 3; }
    }
    class Boot extends V {
      Boot(int n, int m) { super(n, m); }
      int wears(int x) { b(30); return super.wears(x) - eats(1); }
    }
    class Moth extends V {
      Moth(int n, int m) { super(n, m); }
      int eats(int x) { b(40); return -super.eats(x); }
    }
    class Dynasty extends Cat {
      Dynasty(int n, int m) { super(n, m); }
      int tells(int x) { b(50); return super.tells(x) - walks(2); }
    }
    class Army extends Boot {
      Army(int n, int m) { super(n, m); }
      int wears(int x) { b(60); return super.wears(x + 1); }
    }
    class Swarm extends Moth {
      Swarm(int n, int m) { super(n, m); }
      int eats(int x) { b(70); return super.eats(x) ^ n; }
      int tells(int x) { b(71); return wears(x) - super.tells(x); }
    }

    int voice(int w, int act, int x) {
      if (noWalker(w) || out(act, 0, 3)) return error(1);
      trace = new ArrayList<>();
      int m = walkers.get(w)[1];
      V[] all = {new V(w, m), new Cat(w, m), new Boot(w, m), new Moth(w, m), new Dynasty(w, m), new Army(w, m), new Swarm(w, m)};
      V v = all[walkers.get(w)[0]];
      return act == 0 ? v.walks(x) : act == 1 ? v.wears(x) : act == 2 ? v.eats(x) : v.tells(x);
    }

    int trace(int i) { return i < 0 || i >= trace.size() ? error(2) : trace.get(i); }

    int sheet(int s, int b, int n) {
      if (out(s, 0, 3) || !Arrays.asList(0, 8, 16, 32).contains(b)) return error(1);
      if (b == 0) { sheets[s] = null; return 1; }
      if (n < 0) return error(3);
      if (n > 40) return error(1);
      sheets[s] = new long[n];
      bits[s] = b;
      return 1;
    }

    int write(int s, int i, int v) {
      if (out(s, 0, 3)) return error(1);
      if (sheets[s] == null) return error(2);
      if (out(i, 0, sheets[s].length - 1)) return error(1);
      sheets[s][i] = v & ((1L << bits[s]) - 1);
      return 1;
    }

    int move(int s, int i, int o, int j, int n) {
      if (out(s, 0, 3) || out(o, 0, 3)) return error(1);
      if (sheets[s] == null || sheets[o] == null) return error(2);
      if (bits[s] != bits[o]) return error(5);
      if (n < 0 || i < 0 || j < 0 || (long) i + n > sheets[s].length || (long) j + n > sheets[o].length) return error(1);
      long[] as = sheets[s].clone();
      for (int k = 0; k < n; k++) sheets[o][j + k] = as[i + k];
      return n;
    }

    int colours(int s) {
      if (out(s, 0, 3)) return error(1);
      if (sheets[s] == null) return error(2);
      int n = 0;
      for (long v : sheets[s]) {
        if (v > 7 || n == 36) break;
        colour[n / 6][n % 6] = (int) v;
        n++;
      }
      return n;
    }

    int judge(int s) {
      if (out(s, 0, 3)) return error(1);
      if (sheets[s] == null) return error(2);
      for (int i = 0; i < Math.max(36, sheets[s].length); i++) {
        if (i >= 36 || i >= sheets[s].length || sheets[s][i] != colour[i / 6][i % 6]) return i;
      }
      return -1;
    }

    int image() { image = copy(); return ++images; }

    int restore() {
      if (image == null) return error(2);
      take(image);
      return day;
    }

    int tell(int v) {
      if (waiting.size() == 20) return error(4);
      waiting.add(v);
      return waiting.size();
    }

    int holesBehind(int n) {
      Model m = copy();
      for (int i = 0; i < n; i++) m.aDay();
      return m.holes();
    }

    int check() {
      List<Integer> said = waiting;
      waiting = new ArrayList<>();
      for (int i = 0; i < said.size(); i++) if (said.get(i) != holesBehind(i + 1)) return i + 1;
      return 0;
    }

    int count(int what) {
      int wears = 0, set = 0;
      for (int k = 0; k < 36; k++) { wears += wear[k / 6][k % 6]; if (colour[k / 6][k % 6] != 0) set |= 1 << colour[k / 6][k % 6]; }
      int[] all = {walkers.size(), day, holes(), wears, set, tape.size(), waiting.size(), trace.size(), z};
      return out(what, 0, 8) ? error(1) : all[what];
    }

    int told(int k) { return out(k, 1, 5) ? error(1) : told.getOrDefault(k, 0); }
  }
}
