/** Each promise of the document by hand: ordinary calls, the edges that it names, and wrong ones. */
public final class Promises extends Due {
  /** Checks what a text gives as the pattern, whose rest by 7, and 1, is that of the value. */
  private static void dueLaw(CarpetLands x, String text, int a, int b, int c, int value) {
    due("text(0) of " + text, learn(x, 0, text), 1);
    due("law(0) of " + text, x.law(0, a, b, c), Math.floorMod(value, 7) + 1);
  }

  public static void main(String[] args) {
    newObject();
    knots();
    weaving();
    walkers();
    kinds();
    texts();
    faults();
    laws();
    walkersDays();
    catsDays();
    mothsDays();
    daysInOrder();
    daysToTheirEnd();
    daysToTheLast();
    looseDays();
    landsAndBorders();
    slipsAndMends();
    againAndStays();
    roads();
    layings();
    cuts();
    dyes();
    thens();
    voices();
    sheets();
    moves();
    coloursAndJudge();
    images();
    checks();
    counts();
    tolds();
    end();
  }

  private static void newObject() {
    sentence("promise 1");
    CarpetLands x = new CarpetLands();
    int[] counts = {0, 0, 0, 0, 2, 0, 0, 0, 1};
    for (int what = 0; what < counts.length; what++) due("count(" + what + ")", x.count(what), counts[what]);
    for (int k = 1; k <= 5; k++) due("told(" + k + ")", x.told(k), 0);
    for (int s = 0; s < 4; s++) due("judge(" + s + ")", x.judge(s), NONE);
    for (int k = 0; k < 36; k++) {
      due("ofKnot(" + k + ", 0)", x.ofKnot(k, 0), 1);
      due("ofKnot(" + k + ", 1)", x.ofKnot(k, 1), 0);
    }
    due("ofWalker(0, 0)", x.ofWalker(0, 0), BEYOND);
    due("restore()", x.restore(), NONE);
    due("trace(0)", x.trace(0), NONE);
    due("law(0, 3, 4, 9)", x.law(0, 3, 4, 9), 1);
    due("law(1, 7, 50, 2)", x.law(1, 7, 50, 2), 7);
  }

  private static void knots() {
    sentence("promise 2");
    CarpetLands x = new CarpetLands();
    due("knot(0, 0, 7)", x.knot(0, 0, 7), 1);
    due("knot(0, 0, 0)", x.knot(0, 0, 0), 7);
    due("knot(0, 0, 3)", x.knot(0, 0, 3), 0);
    due("knot(35, 1, 99)", x.knot(35, 1, 99), 0);
    due("knot(35, 1, 0)", x.knot(35, 1, 0), 99);
    int[][] beyond = {{-1, 0, 0}, {36, 0, 0}, {LEAST, 0, 0}, {MOST, 0, 0}, {0, -1, 0}, {0, 2, 0}, {0, MOST, 0}, {0, 0, -1},
        {0, 0, 8}, {0, 0, MOST}, {0, 1, -1}, {0, 1, 100}, {0, 1, LEAST}};
    for (int[] b : beyond) due("knot(" + b[0] + ", " + b[1] + ", " + b[2] + ")", x.knot(b[0], b[1], b[2]), BEYOND);
    due("told(1)", x.told(1), beyond.length);
    due("ofKnot(0, 0)", x.ofKnot(0, 0), 3);
    due("ofKnot(0, 1)", x.ofKnot(0, 1), 0);

    sentence("promise 3");
    x = carpet("220011", "020011", "022221", "333321", "000321", "111321");
    x.knot(8, 1, 42);
    due("ofKnot(0, 0)", x.ofKnot(0, 0), 2);
    due("ofKnot(8, 1)", x.ofKnot(8, 1), 42);
    due("ofKnot(8, 2)", x.ofKnot(8, 2), 4);
    due("ofKnot(35, 2)", x.ofKnot(35, 2), 4);
    due("ofKnot(0, 4)", x.ofKnot(0, 4), 10);
    due("ofKnot(34, 4)", x.ofKnot(34, 4), 10);
    due("ofKnot(34, 5)", x.ofKnot(34, 5), 0);
    due("ofKnot(2, 4), a hole", x.ofKnot(2, 4), 4);
    due("ofKnot(6, 4), a hole", x.ofKnot(6, 4), 2);
    due("ofKnot(12, 5), a hole", x.ofKnot(12, 5), 6);
    due("ofKnot(5, 4), not round the edge", x.ofKnot(5, 4), 8);
    due("ofKnot(30, 5)", x.ofKnot(30, 5), 30);
    due("ofKnot(30, 4)", x.ofKnot(30, 4), 3);
    due("ofKnot(8, 3)", x.ofKnot(8, 3), 0);
    due("ofKnot(18, 3)", x.ofKnot(18, 3), 3);
    learn(x, 1, "w*2+c");
    due("ofKnot(8, 3)", x.ofKnot(8, 3), 86);
    due("ofKnot(11, 3)", x.ofKnot(11, 3), 5);
    x.days(3);
    learn(x, 0, "d*2+r");
    due("ofKnot(8, 2)", x.ofKnot(8, 2), 1);
    due("ofKnot(-1, 0)", x.ofKnot(-1, 0), BEYOND);
    due("ofKnot(36, 0)", x.ofKnot(36, 0), BEYOND);
    due("ofKnot(0, -1)", x.ofKnot(0, -1), BEYOND);
    due("ofKnot(0, 6)", x.ofKnot(0, 6), BEYOND);
    due("ofKnot(MOST, MOST)", x.ofKnot(MOST, MOST), BEYOND);
  }

  private static void weaving() {
    sentence("promise 4");
    CarpetLands x = carpet("123456", "111111", "000000", "111111", "111111", "111111");
    x.knot(9, 1, 30);
    due("weave()", x.weave(), 6 + 15);
    due("count(3)", x.count(3), 0);
    due("count(2)", x.count(2), 0);
    due("ofKnot(12, 0)", x.ofKnot(12, 0), 3);
    due("weave()", x.weave(), 0);
    x.days(1);
    learn(x, 0, "d");
    due("weave() by d", x.weave(), 31);
    due("greatest(0)", x.greatest(0), 36);
    due("ofKnot(0, 0)", x.ofKnot(0, 0), 2);

    sentence("promise 5");
    x = carpet("023456", "111111", "000000", "111111", "111111", "111110");
    x.knot(12, 1, 30);
    due("mend()", x.mend(), 8);
    due("ofKnot(12, 0)", x.ofKnot(12, 0), 3);
    due("ofKnot(12, 1), wear stays", x.ofKnot(12, 1), 30);
    due("ofKnot(17, 0)", x.ofKnot(17, 0), 1);
    due("ofKnot(35, 0)", x.ofKnot(35, 0), 4);
    due("ofKnot(6, 0), no hole", x.ofKnot(6, 0), 1);
    due("mend()", x.mend(), 0);
  }

  private static void walkers() {
    sentence("promise 6");
    CarpetLands x = new CarpetLands();
    due("walker(-1, 0)", x.walker(-1, 0), BEYOND);
    due("walker(70, 0)", x.walker(70, 0), BEYOND);
    due("walker(0, -1)", x.walker(0, -1), BEYOND);
    due("walker(0, 36)", x.walker(0, 36), BEYOND);
    for (int i = 0; i < 5; i++) due("walker(" + (17 * i) + ", " + (8 * i) + ")", x.walker(17 * i, 8 * i), i);
    due("walker(0, 0)", x.walker(0, 0), FULL);
    due("walker(0, 36), beyond first", x.walker(0, 36), BEYOND);
    due("count(0)", x.count(0), 5);

    sentence("promise 7");
    int[][] of = {{0, 0, 0, 1, 1, 0}, {1, 7, 8, 1, 1, 0}, {3, 4, 16, 1, 0, 0}, {5, 1, 24, 1, 4, 0}, {6, 8, 32, 1, 0, 1}};
    for (int i = 0; i < 5; i++) {
      for (int what = 0; what < 6; what++) due("ofWalker(" + i + ", " + what + ")", x.ofWalker(i, what), of[i][what]);
    }
    x.knot(16, 1, 39);
    due("ofWalker(2, 5) at 39", x.ofWalker(2, 5), 0);
    x.knot(16, 1, 40);
    due("ofWalker(2, 5) at 40", x.ofWalker(2, 5), 1);
    due("ofWalker(-1, 0)", x.ofWalker(-1, 0), BEYOND);
    due("ofWalker(5, 0)", x.ofWalker(5, 0), BEYOND);
    due("ofWalker(0, -1)", x.ofWalker(0, -1), BEYOND);
    due("ofWalker(0, 6)", x.ofWalker(0, 6), BEYOND);
    due("ofWalker(LEAST, 0)", x.ofWalker(LEAST, 0), BEYOND);

    sentence("promise 8");
    due("put(1, 35, 3)", x.put(1, 35, 3), 8);
    due("ofWalker(1, 2)", x.ofWalker(1, 2), 35);
    due("ofWalker(1, 3)", x.ofWalker(1, 3), 3);
    due("put(1, 0, 0)", x.put(1, 0, 0), 35);
    int[][] beyond = {{-1, 0, 0}, {5, 0, 0}, {1, -1, 0}, {1, 36, 0}, {1, 0, -1}, {1, 0, 4}, {MOST, MOST, MOST}};
    for (int[] b : beyond) due("put(" + b[0] + ", " + b[1] + ", " + b[2] + ")", x.put(b[0], b[1], b[2]), BEYOND);
    due("ofWalker(1, 2)", x.ofWalker(1, 2), 0);
    due("ofWalker(1, 3)", x.ofWalker(1, 3), 0);
  }

  private static void kinds() {
    sentence("promise 9");
    CarpetLands x = new CarpetLands();
    x.walker(13, 7);
    x.put(0, 7, 2);
    due("become(0, 69)", x.become(0, 69), 1);
    due("ofWalker(0, 0)", x.ofWalker(0, 0), 6);
    due("ofWalker(0, 1)", x.ofWalker(0, 1), 9);
    due("ofWalker(0, 2)", x.ofWalker(0, 2), 7);
    due("ofWalker(0, 3)", x.ofWalker(0, 3), 2);
    due("become(0, 0)", x.become(0, 0), 6);
    due("become(0, 70)", x.become(0, 70), BEYOND);
    due("become(0, -1)", x.become(0, -1), BEYOND);
    due("become(1, 0)", x.become(1, 0), BEYOND);
    due("become(-1, 0)", x.become(-1, 0), BEYOND);
    int[] wears = {1, 1, 3, 0, 1, 3 + 4, 0};
    for (int kind = 0; kind < 7; kind++) {
      x.become(0, 10 * kind + 4);
      due("ofWalker(0, 4) of kind " + kind, x.ofWalker(0, 4), wears[kind]);
      due("ofWalker(0, 5) of kind " + kind, x.ofWalker(0, 5), kind == 6 ? 1 : 0);
    }
    x.become(0, 30);
    due("ofWalker(0, 5) of a moth with 0", x.ofWalker(0, 5), 1);

    sentence("promise 10");
    String[] isOf = {"0", "01", "02", "03", "014", "025", "036"};
    for (int kind = 0; kind < 7; kind++) {
      x.become(0, 10 * kind + kind);
      for (int k = 0; k < 7; k++) {
        due("as(0, " + k + ") of kind " + kind, x.as(0, k), isOf[kind].indexOf('0' + k) >= 0 ? kind : KIND);
      }
    }
    due("as(0, 7)", x.as(0, 7), BEYOND);
    due("as(0, -1)", x.as(0, -1), BEYOND);
    due("as(1, 0)", x.as(1, 0), BEYOND);
    due("as(-1, 0)", x.as(-1, 0), BEYOND);
    due("told(5)", x.told(5), 49 - 16);
  }

  private static void texts() {
    sentence("promise 11");
    CarpetLands x = new CarpetLands();
    due("feed(.., 0)", x.feed(0L, 0), BEYOND);
    due("feed(.., 9)", x.feed(0L, 9), BEYOND);
    due("feed(.., LEAST)", x.feed(0L, LEAST), BEYOND);
    due("count(5)", x.count(5), 0);
    for (int i = 1; i <= 6; i++) due("feed(.., 8)", x.feed(-1L, 8), 8 * i);
    due("feed(.., 3)", x.feed(-1L, 3), FULL);
    due("feed(.., 9), beyond first", x.feed(-1L, 9), BEYOND);
    due("feed(.., 1)", x.feed(-1L, 1), 49);
    due("feed(.., 2)", x.feed(-1L, 2), FULL);
    due("feed(.., 1)", x.feed(-1L, 1), 50);
    due("feed(.., 1)", x.feed(-1L, 1), FULL);
    due("count(5)", x.count(5), 50);
    due("text(0)", x.text(0), -10);
    // The lowest byte comes first, and only the lowest n come.
    due("feed \"1+r\" and more", x.feed('1' | '+' << 8 | 'r' << 16 | (long) '!' << 56, 3), 3);
    due("text(0)", x.text(0), 1);
    due("law(0, 4, 0, 0)", x.law(0, 4, 0, 0), 6);
    due("feed eight bytes", x.feed(0x3939393939393931L, 8), 8);
    due("text(0)", x.text(0), -14);

    sentence("promise 12");
    feed(x, "r*c");
    due("text(2)", x.text(2), BEYOND);
    due("text(-1)", x.text(-1), BEYOND);
    due("count(5)", x.count(5), 3);
    due("text(0)", x.text(0), 1);
    due("count(5)", x.count(5), 0);
    due("law(0, 2, 3, 0)", x.law(0, 2, 3, 0), 7);
    due("text(1) of nothing", x.text(1), -10);
    due("text(1) of w", learn(x, 1, "w"), 1);
    due("text(1) of k+", learn(x, 1, "k+"), -12);
    due("law(1, 5, 9, 0), the one ahead stays", x.law(1, 5, 9, 0), 9);
    due("text(0) of d", learn(x, 0, "d"), 1);
    due("law(0, 2, 3, 4), the new one", x.law(0, 2, 3, 4), 5);
    due("law(1, 5, 9, 0), the other use's stays", x.law(1, 5, 9, 0), 9);
    due("told(3)", x.told(3), 0);
  }

  private static void faults() {
    CarpetLands x = new CarpetLands();
    String[] texts = {"+", "r+", "r++", "1r", "rr", "12345", "1234", "k", "w", "x", " r", "r ", "()", "(r", "(r))", ")", "r)",
        "1<2<3", "1=2>3", "1<2&3<4", "(1<2)<3", "1<(2<3)", "!", "!!!!!!1", "!!!!!1", "((((((", "(((((1)))))", "!(!(!(", "!(!(!1)",
        "!!!!!1+!!!!!1", "(((((1))))+1)", "((((!1))))+!!!!!(1)", "r!", "r(", "1(2)", "r+!", "1|", "1||2", "12345+", "0000", "00000",
        "1<2|", "(1<2<3)", "(1<2))", "-1", "1--1", "r==c", "r<=c", "r.c"};
    int[] due = {0, 2, 2, 1, 1, 4, -1, 0, 0, 0, 0, 1, 1, 2, 3, 0, 1,
        3, 3, -1, -1, -1, 1, 5, -1, 5, -1, 5, 7,
        -1, -1, 16, 1, 1, 1, 3, 2, 2, 4, -1, 4,
        4, 4, 5, 0, 2, 2, 2, 1};
    for (int i = 0; i < texts.length; i++) {
      if (due[i] < 0) due("text(0) of " + texts[i], learn(x, 0, texts[i]), 1);
      else dueFault(x, 0, texts[i], due[i]);
    }
    dueFault(x, 1, "r", 0);
    dueFault(x, 1, "k+d", 2);
    due("text(1) of k+w*c", learn(x, 1, "k+w*c"), 1);
    dueFault(x, 0, "1+\u00b2", 2);
    dueFault(x, 0, "1\0", 1);
    dueFault(x, 0, "\0", 0);
    String fifty = "1+1+1+1+1+1+1+1+1+1+1+1+1+1+1+1+1+1+1+1+1+1+1+1+11";
    due("text(0) of 50 bytes", learn(x, 0, fifty), 1);
    due("law(0, 0, 0, 0) of 50 bytes", x.law(0, 0, 0, 0), 35 % 7 + 1);
    dueFault(x, 0, fifty.substring(0, 48), 48);
    dueFault(x, 0, fifty.substring(0, 49) + "+", 50);
    due("told(1)", x.told(1), 0);
  }

  private static void laws() {
    sentence("promise 13");
    CarpetLands x = new CarpetLands();
    due("law(0, MOST, 1, 0)", x.law(0, MOST, 1, 0), Math.floorMod(LEAST, 7) + 1);
    due("law(0, -1, 0, 0)", x.law(0, -1, 0, 0), 7);
    due("law(0, -8, 0, 5)", x.law(0, -8, 0, 5), 7);
    due("law(1, 99, 0, 0)", x.law(1, 99, 0, 0), 99);
    due("law(1, 100, 0, 0)", x.law(1, 100, 0, 0), 99);
    due("law(1, -1, 0, 0)", x.law(1, -1, 0, 0), 0);
    due("law(2, 0, 0, 0)", x.law(2, 0, 0, 0), BEYOND);
    due("law(-1, 0, 0, 0)", x.law(-1, 0, 0, 0), BEYOND);
    dueLaw(x, "r*10+c-d", 4, 5, 6, 39);
    dueLaw(x, "r-c-d", 10, 3, 2, 5);
    dueLaw(x, "r-(c-d)", 10, 3, 2, 9);
    dueLaw(x, "r/c*d", 7, 2, 5, 15);
    dueLaw(x, "r%c*d", 7, 4, 2, 6);
    dueLaw(x, "r*c%d", 7, 4, 5, 3);
    dueLaw(x, "r/c", -7, 2, 0, -3);
    dueLaw(x, "r%c", -7, 2, 0, -1);
    dueLaw(x, "r%c", 7, -4, 0, 3);
    dueLaw(x, "r/c+5", 7, 0, 0, 5);
    dueLaw(x, "r%c+5", 7, 0, 0, 5);
    dueLaw(x, "r/c", LEAST, -1, 0, LEAST);
    dueLaw(x, "r%c", LEAST, -1, 0, 0);
    dueLaw(x, "r*c", 65536, 65537, 0, 65536);
    dueLaw(x, "r+c", MOST, MOST, 0, -2);
    dueLaw(x, "r-c", LEAST, 1, 0, MOST);
    dueLaw(x, "r+c*d", 2, 3, 4, 14);
    dueLaw(x, "(r+c)*d", 2, 3, 4, 20);
    dueLaw(x, "2*(r<c)", 2, 3, 0, 2);
    dueLaw(x, "2*(r<c)", 3, 3, 0, 0);
    dueLaw(x, "2*(r>c)", 4, 3, 0, 2);
    dueLaw(x, "2*(r>c)", 3, 3, 0, 0);
    dueLaw(x, "2*(r=c)", 3, 3, 0, 2);
    dueLaw(x, "2*(r=c)", 3, 4, 0, 0);
    dueLaw(x, "r+1<c", 2, 4, 0, 1);
    dueLaw(x, "r=c&d", 2, 2, 5, 1);
    dueLaw(x, "r&c", 2, 4, 0, 1);
    dueLaw(x, "r&c", 2, 0, 0, 0);
    dueLaw(x, "r&c", 0, 2, 0, 0);
    dueLaw(x, "r|c", 0, 4, 0, 1);
    dueLaw(x, "r|c", 4, 0, 0, 1);
    dueLaw(x, "r|c", 0, 0, 0, 0);
    dueLaw(x, "r|c&d", 1, 0, 0, 1);
    dueLaw(x, "(r|c)&d", 1, 0, 0, 0);
    dueLaw(x, "r&c=d", 2, 3, 3, 1);
    dueLaw(x, "!r", 0, 0, 0, 1);
    dueLaw(x, "!r", -3, 0, 0, 0);
    dueLaw(x, "!!r", -3, 0, 0, 1);
    dueLaw(x, "!r+c", 0, 4, 0, 5);
    dueLaw(x, "!(r+c)", 0, 4, 0, 0);
    dueLaw(x, "c*!r", 0, 4, 0, 4);
    dueLaw(x, "9999+r", 1, 0, 0, 10000);
    dueLaw(x, "0012*2", 0, 0, 0, 24);
    learn(x, 1, "k-w*c");
    due("law(1, 99, 3, 4)", x.law(1, 99, 3, 4), 87);
    due("law(1, 1, 3, 4)", x.law(1, 1, 3, 4), 0);
    due("law(1, 1000, 3, 4)", x.law(1, 1000, 3, 4), 99);
    due("law(1, 99, 0, 4)", x.law(1, 99, 0, 4), 99);
  }

  /** Where a walker is and which way, each as 10 times a knot and the way. */
  private static void dueAt(CarpetLands x, String when, int walker, int knot, int way) {
    due("ofWalker(" + walker + ", 2) " + when, x.ofWalker(walker, 2), knot);
    due("ofWalker(" + walker + ", 3) " + when, x.ofWalker(walker, 3), way);
  }

  private static void walkersDays() {
    sentence("promise 14");
    CarpetLands x = new CarpetLands();
    x.walker(0, 3);
    due("days(1)", x.days(1), 0);
    dueAt(x, "on", 0, 4, 1);
    x.days(2);
    dueAt(x, "round the corner", 0, 11, 2);
    due("ofKnot(5, 1)", x.ofKnot(5, 1), 1);
    due("count(3)", x.count(3), 3);
    x.put(0, 0, 3);
    x.days(1);
    dueAt(x, "3 to 0 to 1", 0, 1, 1);
    x.put(0, 2, 0);
    x.days(1);
    dueAt(x, "0 to 1", 0, 3, 1);
    x.put(0, 30, 2);
    x.days(1);
    dueAt(x, "2 to 3 to 0", 0, 24, 0);
    x.put(0, 35, 1);
    x.days(1);
    dueAt(x, "1 to 2 to 3", 0, 34, 3);
    due("count(1)", x.count(1), 7);
    x = new CarpetLands();
    x.walker(20, 4);
    x.days(1);
    dueAt(x, "a boot steps twice", 0, 11, 2);
    due("ofKnot(11, 1)", x.ofKnot(11, 1), 3);
    due("ofKnot(5, 1), where it only passed", x.ofKnot(5, 1), 0);
    x.become(0, 59);
    x.knot(23, 1, 90);
    x.days(1);
    dueAt(x, "an army steps as a boot", 0, 23, 2);
    due("ofKnot(23, 1)", x.ofKnot(23, 1), 99);
    due("days(0)", x.days(0), BEYOND);
    due("days(-1)", x.days(-1), BEYOND);
    due("days(101)", x.days(101), BEYOND);
    due("days(MOST)", x.days(MOST), BEYOND);
    due("days(LEAST)", x.days(LEAST), BEYOND);
    due("count(1)", x.count(1), 2);
  }

  private static void catsDays() {
    CarpetLands x = carpet("111111", "122211", "132311", "132311", "111111", "111111");
    x.walker(10, 7);
    x.days(1);
    dueAt(x, "on", 0, 8, 1);
    x.days(1);
    dueAt(x, "on again", 0, 9, 1);
    x.put(0, 8, 0);
    x.days(1);
    dueAt(x, "one more", 0, 9, 1);
    x.put(0, 9, 2);
    x.days(1);
    dueAt(x, "one less is none, one more is", 0, 8, 3);
    x.put(0, 7, 2);
    x.days(1);
    dueAt(x, "one less", 0, 8, 1);
    x.put(0, 7, 0);
    x.knot(8, 0, 5);
    x.knot(13, 0, 2);
    x.days(1);
    dueAt(x, "the opposite", 0, 13, 2);
    x.knot(7, 0, 6);
    x.knot(14, 0, 5);
    x.put(0, 13, 3);
    x.days(1);
    dueAt(x, "stays", 0, 13, 3);
    due("ofKnot(13, 1), worn all the same", x.ofKnot(13, 1), 2);
    x.knot(7, 0, 0);
    x.knot(13, 0, 0);
    x.put(0, 13, 0);
    x.days(1);
    dueAt(x, "from hole to hole", 0, 7, 0);
    x = new CarpetLands();
    x.walker(10, 5);
    x.put(0, 5, 0);
    x.days(1);
    dueAt(x, "3 ahead of 0", 0, 4, 3);
    x = new CarpetLands();
    x.walker(49, 0);
    x.days(1);
    dueAt(x, "a dynasty on day 0", 0, 1, 1);
    x.days(1);
    dueAt(x, "a dynasty on day 1", 0, 1, 1);
    due("ofKnot(1, 1)", x.ofKnot(1, 1), 2);
    x.days(1);
    dueAt(x, "a dynasty on day 2", 0, 2, 1);
  }

  private static void mothsDays() {
    CarpetLands x = carpet("111111", "131211", "114111", "111111", "100001", "111111");
    x.walker(31, 8);
    due("days(1)", x.days(1), 4);
    dueAt(x, "to the greatest colour", 0, 14, 2);
    due("ofKnot(14, 1)", x.ofKnot(14, 1), 0);
    x.knot(9, 1, 9);
    x.put(0, 8, 2);
    x.knot(14, 0, 2);
    x.knot(7, 0, 2);
    due("days(1)", x.days(1), 4);
    dueAt(x, "of several the least way", 0, 9, 1);
    x.knot(9, 1, 10);
    x.put(0, 8, 2);
    due("days(1)", x.days(1), 5);
    due("ofKnot(9, 0), eaten", x.ofKnot(9, 0), 0);
    due("ofKnot(9, 1), wear stays", x.ofKnot(9, 1), 10);
    x = carpet("000000", "000000", "000000", "000000", "000000", "000000");
    x.walker(39, 0);
    x.days(1);
    dueAt(x, "among holes", 0, 1, 1);
    x.walker(60, 35);
    x.weave();
    due("days(1)", x.days(1), 1);
    due("ofWalker(1, 2)", x.ofWalker(1, 2), 29);
    due("ofKnot(29, 0), a swarm eats", x.ofKnot(29, 0), 0);
  }

  private static void daysInOrder() {
    // The second walker sees what the first one ate on the same day.
    CarpetLands x = carpet("111111", "122111", "111111", "111111", "111111", "111111");
    x.walker(60, 6);
    x.walker(10, 7);
    due("days(1)", x.days(1), 1);
    dueAt(x, "a swarm", 0, 7, 1);
    dueAt(x, "a cat whose land was eaten under it", 1, 7, 1);
    x = carpet("111111", "122111", "111111", "111111", "111111", "111111");
    x.walker(10, 7);
    x.walker(60, 6);
    x.days(1);
    dueAt(x, "a cat ahead of the swarm", 0, 8, 1);
    // The moth eats where the boot ahead of it has worn on that day.
    x = carpet("111111", "111111", "117111", "111111", "111111", "111111");
    x.walker(59, 12);
    x.walker(31, 8);
    due("days(1)", x.days(1), 1);
    due("ofKnot(14, 1)", x.ofKnot(14, 1), 12);
  }

  private static void daysToTheirEnd() {
    CarpetLands x = new CarpetLands();
    x.walker(40, 0);
    for (int i = 0; i < 99; i++) x.days(100);
    due("count(1)", x.count(1), 9900);
    due("days(100)", x.days(100), STATE);
    due("days(101), beyond first", x.days(101), BEYOND);
    due("then(100, 0, 0)", x.then(100, 0, 0) >= 0 ? 1 : 0, 1);
    due("days(98)", x.days(98), 0);
    due("loose(2)", x.loose(2), STATE);
    due("loose(41), beyond first", x.loose(41), BEYOND);
    due("days(2)", x.days(2), STATE);
    due("count(8)", x.count(8), 1);
    due("loose(1)", x.loose(1) >= 0 ? 1 : 0, 1);
    due("count(1)", x.count(1), 9999);
    due("days(1)", x.days(1), STATE);
    due("loose(1)", x.loose(1), STATE);
    due("told(3)", x.told(3), 5);
    x.tell(x.count(2));
    due("check()", x.check(), 0);
    due("count(1)", x.count(1), 9999);
  }

  private static void daysToTheLast() {
    CarpetLands x = new CarpetLands();
    for (int i = 0; i < 99; i++) x.days(100);
    due("days(99)", x.days(99), 0);
    due("count(1)", x.count(1), 9999);
    due("days(1)", x.days(1), STATE);
  }

  private static void looseDays() {
    sentence("promise 15");
    CarpetLands x = new CarpetLands();
    // z 1 gives 1103527590, then 2524885223 as a number without a sign: 9862832 is behind the shift, a hole.
    due("loose(1)", x.loose(1), 1);
    due("count(8)", x.count(8), 1103527590 * 1103515245 + 12345);
    int first = 1103527590 >>> 8;
    int second = (1103527590 * 1103515245 + 12345) >>> 8;
    due("ofKnot(first % 36, 0)", x.ofKnot(first % 36, 0), second % 8);
    due("count(1)", x.count(1), 1);
    // A hole by a draw, and a day behind the draw: the moth goes by what was drawn.
    x = new CarpetLands();
    int z = 0;
    int one = 0;
    int two = 0;
    int at = 0;
    for (int seed = 0; seed < 10000; seed++) {
      one = seed * 1103515245 + 12345;
      two = one * 1103515245 + 12345;
      at = (one >>> 8) % 36;
      z = seed;
      if ((two >>> 8) % 8 == 5 && at % 6 > 0) break;
    }
    x.walker(39, at - 1);
    x.put(0, at - 1, 0);
    x.seed(z);
    due("loose(1)", x.loose(1), 0);
    due("ofWalker(0, 2)", x.ofWalker(0, 2), at);
    due("count(8)", x.count(8), two);
    due("loose(0)", x.loose(0), BEYOND);
    due("loose(41)", x.loose(41), BEYOND);
    due("loose(-1)", x.loose(-1), BEYOND);
    due("count(8)", x.count(8), two);
    due("loose(40)", x.loose(40) == x.count(2) ? 1 : 0, 1);
    due("count(1)", x.count(1), 41);
  }

  private static void landsAndBorders() {
    sentence("promise 16");
    CarpetLands x = carpet("110022", "110022", "003300", "003300", "220011", "220011");
    due("lands(-1)", x.lands(-1), 5);
    due("lands(0)", x.lands(0), 4);
    due("lands(1)", x.lands(1), 2);
    due("lands(3)", x.lands(3), 1);
    due("lands(7)", x.lands(7), 0);
    due("lands(8)", x.lands(8), BEYOND);
    due("lands(-2)", x.lands(-2), BEYOND);
    CarpetLands chess = carpet("121212", "212121", "121212", "212121", "121212", "212121");
    due("lands(1) of a chessboard", chess.lands(1), 18);
    due("lands(-1) of a chessboard", chess.lands(-1), 36);
    CarpetLands snake = carpet("111111", "222221", "111111", "122222", "111111", "222221");
    due("lands(1) of a snake", snake.lands(1), 1);
    due("ofKnot(35, 4) of a snake", snake.ofKnot(35, 4), 21);
    due("ofKnot(35, 5) of a snake", snake.ofKnot(35, 5), 0);

    sentence("promise 17");
    due("greatest(0)", x.greatest(0), 4);
    due("greatest(1), of several the least", x.greatest(1), 0);
    x.knot(20, 0, 0);
    x.knot(0, 0, 0);
    due("greatest(1)", x.greatest(1), 4);
    x.knot(4, 0, 1);
    due("greatest(1)", x.greatest(1), 24);
    due("greatest(2)", x.greatest(2), BEYOND);
    due("greatest(-1)", x.greatest(-1), BEYOND);
    CarpetLands holes = carpet("000000", "000000", "000000", "000000", "000000", "000000");
    due("greatest(0) of holes", holes.greatest(0), NONE);
    due("greatest(1) of holes", holes.greatest(1), NONE);
    due("greatest(2) of holes", holes.greatest(2), BEYOND);
    holes.knot(35, 0, 7);
    due("greatest(0)", holes.greatest(0), 1);
    due("greatest(1)", holes.greatest(1), 35);

    sentence("promise 18");
    x = carpet("112222", "132224", "111110", "555555", "555555", "666777");
    due("nextTo(0)", x.nextTo(0), 1 | 1 << 2 | 1 << 3 | 1 << 5);
    due("nextTo(7)", x.nextTo(7), 1 << 1 | 1 << 2);
    due("nextTo(17), a hole", x.nextTo(17), 1 << 1 | 1 << 4 | 1 << 5);
    due("nextTo(30), not round the edge", x.nextTo(30), 1 << 5 | 1 << 7);
    due("nextTo(0) of one land", new CarpetLands().nextTo(0), 0);
    due("nextTo(36)", x.nextTo(36), BEYOND);
    due("nextTo(-1)", x.nextTo(-1), BEYOND);

    sentence("promise 19");
    due("frontier(1, 2)", x.frontier(1, 2), 4);
    due("frontier(2, 1)", x.frontier(2, 1), 4);
    due("frontier(0, 1)", x.frontier(0, 1), 1);
    due("frontier(6, 7)", x.frontier(6, 7), 1);
    due("frontier(2, 5)", x.frontier(2, 5), 0);
    due("frontier(1, 1)", x.frontier(1, 1), BEYOND);
    due("frontier(-1, 1)", x.frontier(-1, 1), BEYOND);
    due("frontier(1, 8)", x.frontier(1, 8), BEYOND);
    due("frontier(8, 1)", x.frontier(8, 1), BEYOND);
    due("frontier(1, -1)", x.frontier(1, -1), BEYOND);
  }

  private static void slipsAndMends() {
    sentence("promise 20");
    CarpetLands x = carpet("123456", "234567", "345671", "456712", "567123", "671234");
    due("slips()", x.slips(), 0);
    x.knot(0, 0, 2);
    x.knot(35, 0, 1);
    x.knot(7, 0, 0);
    due("slips(), holes are none", x.slips(), 2);
    x.days(1);
    learn(x, 0, "r+c+d-1");
    due("slips() by the day", x.slips(), 2);
    x.days(1);
    due("slips() a day on", x.slips(), 34);
    due("slips() changes nothing", x.ofKnot(0, 0), 2);

    sentence("promise 21");
    x = carpet("000000", "234567", "345671", "456712", "567123", "671230");
    for (int k = 1; k <= 7; k++) due("mends(" + k + ")", x.mends(k), k == 7 ? 0 : k == 4 ? 2 : 1);
    due("mends(0)", x.mends(0), BEYOND);
    due("mends(8)", x.mends(8), BEYOND);
    due("mends(-1)", x.mends(-1), BEYOND);
    due("mends() changes nothing", x.count(2), 7);
  }

  private static void againAndStays() {
    sentence("promise 22");
    CarpetLands x = carpet("123123", "231231", "123123", "231231", "123123", "231231");
    due("again(0)", x.again(0), 3);
    due("again(1)", x.again(1), 2);
    x = carpet("123412", "123412", "123412", "123412", "123412", "123412");
    due("again(0)", x.again(0), 4);
    due("again(1)", x.again(1), 1);
    x = carpet("123451", "000000", "222222", "333333", "444444", "111111");
    due("again(0)", x.again(0), 5);
    due("again(1)", x.again(1), 6);
    // Only those p apart count: a hole between two unlike ones parts them.
    x = carpet("102111", "111111", "111111", "111111", "111111", "111111");
    due("again(0)", x.again(0), 4);
    x = carpet("121111", "111111", "111111", "111111", "111111", "111112");
    due("again(0)", x.again(0), 6);
    due("again(1)", x.again(1), 6);
    due("again(2)", x.again(2), BEYOND);
    due("again(-1)", x.again(-1), BEYOND);

    sentence("promise 23");
    due("stays() of one colour", new CarpetLands().stays(), 255);
    due("stays() of none", carpet("123456", "111111", "222222", "333333", "444444", "555555").stays(), 1);
    due("stays() turned by quarters", carpet("123453", "511112", "411111", "311114", "211115", "354321").stays(), 1);
    due("stays() turned by quarters, true", carpet("123451", "511112", "411113", "311114", "211115", "154321").stays(), 15);
    due("stays() turned by half", carpet("123456", "111111", "111111", "111111", "111111", "654321").stays(), 1 | 4);
    due("stays() mirrored left to right", carpet("123321", "444444", "555555", "666666", "777777", "000000").stays(), 1 | 16);
    due("stays() mirrored top to bottom", carpet("123456", "111111", "222222", "222222", "111111", "123456").stays(), 1 | 64);
    due("stays() mirrored by rows = columns", carpet("123456", "211111", "311111", "411111", "511111", "611111").stays(), 1 | 128);
    due("stays() mirrored by the other", carpet("654321", "111112", "111113", "111114", "111115", "111116").stays(), 1 | 32);
    due("stays(), holes are colours", carpet("011111", "111111", "111111", "111111", "111111", "111111").stays(), 1 | 128);
  }

  private static void roads() {
    sentence("promise 24");
    CarpetLands x = new CarpetLands();
    due("road(0, 0, 2)", x.road(0, 0, 2), 0);
    due("road(0, 0, 253)", x.road(0, 0, 253), NONE);
    due("road(0, 1, 2)", x.road(0, 1, 2), 1);
    due("road(0, 7, 2)", x.road(0, 7, 2), 2);
    due("road(0, 2, 2), a step aside and back", x.road(0, 2, 2), 4);
    due("road(0, 35, 2)", x.road(0, 35, 2), 10);
    due("road(0, 5, 2)", x.road(0, 5, 2), 9);
    x = carpet("111222", "222222", "222222", "222222", "222222", "222222");
    due("road(0, 2, 2) by a straight strip", x.road(0, 2, 2), NONE);
    due("road(0, 1, 2)", x.road(0, 1, 2), 1);
    due("road(0, 2, 6)", x.road(0, 2, 6), 4);
    due("road(0, 35, 4), from not in the set", x.road(0, 35, 4), NONE);
    due("road(35, 0, 4), to not in the set", x.road(35, 0, 4), NONE);
    due("road(0, 35, 0)", x.road(0, 35, 0), NONE);
    // On a strip no step goes on, but a notch lets one step aside and back.
    x = carpet("111333", "313333", "333333", "333333", "333333", "333333");
    due("road(0, 2, 2) by a notch", x.road(0, 2, 2), 4);
    x = carpet("111111", "010101", "000000", "000000", "000000", "000000");
    due("road(0, 5, 2) by notches too few", x.road(0, 5, 2), NONE);
    lay(x, "111111", "011110", "000000", "000000", "000000", "000000");
    due("road(0, 5, 2) by two rows", x.road(0, 5, 2), 9);
    x = carpet("122222", "112222", "211222", "221122", "222112", "222211");
    due("road(0, 35, 2) by stairs", x.road(0, 35, 2), 10);
    due("road(0, 35, 3), the set has holes too", x.road(0, 35, 3), 10);
    x.knot(14, 0, 0);
    due("road(0, 35, 2) with a hole", x.road(0, 35, 2), NONE);
    due("road(0, 35, 3) with a hole in the set", x.road(0, 35, 3), 10);
    x.knot(35, 0, 7);
    due("road(0, 35, 131)", x.road(0, 35, 131), 10);
    due("road(0, 35, 255)", x.road(0, 35, 255), 10);
    int[][] beyond = {{-1, 0, 2}, {36, 0, 2}, {0, -1, 2}, {0, 36, 2}, {0, 0, -1}, {0, 0, 256}, {LEAST, MOST, 1}, {0, 0, LEAST}};
    for (int[] b : beyond) due("road(" + b[0] + ", " + b[1] + ", " + b[2] + ")", x.road(b[0], b[1], b[2]), BEYOND);
  }

  private static void layings() {
    sentence("promise 25");
    CarpetLands x = carpet("123456", "111111", "111111", "111111", "111111", "111111");
    String same = "123456" + "111111111111111111111111111111";
    for (int bits = 8; bits <= 32; bits *= 2) {
      sheet(x, 0, bits, same);
      due("fits(0, 0, 0)", x.fits(0, 0, 0), 1);
      due("fits(0, 1, 0)", x.fits(0, 1, 0), 0);
      due("fits(0, -1, 0)", x.fits(0, -1, 0), 0);
      due("fits(0, 5, 5)", x.fits(0, 5, 5), 1);
      due("fits(0, 5, 0)", x.fits(0, 5, 0), 0);
      due("fits(0, -5, -5)", x.fits(0, -5, -5), 1);
      due("fits(0, -5, 5)", x.fits(0, -5, 5), 0);
    }
    x.knot(5, 0, 0);
    due("fits(0, -5, 5) upon a hole", x.fits(0, -5, 5), 1);
    due("fits(0, 0, 0) with a hole below", x.fits(0, 0, 0), 1);
    sheet(x, 1, 16, "000000" + "000000000000000000000000000002");
    due("fits(1, 0, 0)", x.fits(1, 0, 0), 0);
    due("fits(1, 0, 1), what lies outside is not there", x.fits(1, 0, 1), 1);
    due("fits(1, -5, -4), upon column 1", x.fits(1, -5, -4), 1);
    due("fits(1, -5, -3), upon column 2", x.fits(1, -5, -3), 0);
    due("fits(-1, 0, 0)", x.fits(-1, 0, 0), BEYOND);
    due("fits(4, 0, 0)", x.fits(4, 0, 0), BEYOND);
    due("fits(0, -6, 0)", x.fits(0, -6, 0), BEYOND);
    due("fits(0, 6, 0)", x.fits(0, 6, 0), BEYOND);
    due("fits(0, 0, -6)", x.fits(0, 0, -6), BEYOND);
    due("fits(0, 0, 6)", x.fits(0, 0, 6), BEYOND);
    due("fits(3, 0, 6), beyond first", x.fits(3, 0, 6), BEYOND);
    due("fits(3, 0, 0)", x.fits(3, 0, 0), NONE);
    sheet(x, 3, 8, same.substring(1));
    due("fits(3, 0, 0) of 35", x.fits(3, 0, 0), NONE);
    sheet(x, 3, 8, same + "1");
    due("fits(3, 0, 0) of 37", x.fits(3, 0, 0), NONE);
    sheet(x, 3, 8, same);
    x.write(3, 35, 8);
    due("fits(3, 0, 0) of an 8", x.fits(3, 0, 0), NONE);
    sheet(x, 3, 32, same);
    x.write(3, 0, -1);
    due("fits(3, 0, 0) of a -1", x.fits(3, 0, 0), NONE);

    sentence("promise 26");
    due("layings(3, 0) of a -1", x.layings(3, 0), NONE);
    due("layings(3, 1) of a -1", x.layings(3, 1), NONE);
    due("layings(3, 2), beyond first", x.layings(3, 2), BEYOND);
    due("layings(0, -1)", x.layings(0, -1), BEYOND);
    due("layings(4, 0)", x.layings(4, 0), BEYOND);
    due("layings(-1, 0)", x.layings(-1, 0), BEYOND);
    due("layings(2, 0), missing", x.layings(2, 0), NONE);
    x = new CarpetLands();
    sheet(x, 0, 8, "222222222222222222222222222222222222");
    due("layings(0, 0), none", x.layings(0, 0), 0);
    due("layings(0, 1), none", x.layings(0, 1), NONE);
    sheet(x, 0, 8, "122222222222222222222222222222222222");
    due("layings(0, 0), a corner alone", x.layings(0, 0), 1);
    due("layings(0, 1), a corner alone", x.layings(0, 1), 1010);
    sheet(x, 0, 8, "122222222222222222222222222222222221");
    due("layings(0, 1), of two the first", x.layings(0, 1), 0);
    sheet(x, 0, 8, "222221222222222222222222222222122222");
    due("layings(0, 1), of two the first by rows", x.layings(0, 1), 10);
    sheet(x, 0, 8, "122222122222222222222222222222222221");
    due("layings(0, 1), the most, not the first", x.layings(0, 1), 910);
    due("layings(0, 0)", x.layings(0, 0), 3);
    sheet(x, 0, 8, "111111111111222222222222222222222222");
    due("layings(0, 1), two rows", x.layings(0, 1), 905);
    due("layings(0, 0), two rows", x.layings(0, 0), 22);
    sheet(x, 0, 8, "211111211111211111211111211111211111");
    due("layings(0, 1), all but a column", x.layings(0, 1), 504);
    due("layings(0, 0), all but a column", x.layings(0, 0), 55);
  }

  private static void cuts() {
    sentence("promise 27");
    CarpetLands x = new CarpetLands();
    due("cut(0)", x.cut(0), 2);
    due("cut(1)", x.cut(1), 0);
    x = carpet("700000", "000000", "000000", "000000", "000000", "000003");
    due("cut(0), of several the least", x.cut(0), 0);
    due("cut(1)", x.cut(1), 4);
    x = carpet("000010", "000000", "000000", "000000", "000000", "000007");
    due("cut(0), the last", x.cut(0), 4);
    due("cut(1)", x.cut(1), 6);
    x = new CarpetLands();
    learn(x, 1, "w");
    for (int c = 0; c < 6; c++) x.knot(6 * c + c, 1, 10 * (c + 1));
    due("cut(0) by wear", x.cut(0), 3);
    due("cut(1) by wear", x.cut(1), 10);
    learn(x, 1, "c*c");
    due("cut(0) by columns", x.cut(0), 4);
    due("cut(1) by columns", x.cut(1), 30);
    learn(x, 1, "99+k*9");
    due("cut(1), held within 99", x.cut(1), 0);
    due("cut(2)", x.cut(2), BEYOND);
    due("cut(-1)", x.cut(-1), BEYOND);
  }

  private static void dyes() {
    sentence("promise 28");
    CarpetLands x = carpet("123456", "123456", "123456", "123456", "123456", "123456");
    due("dyed(0, 1, -1)", x.dyed(0, 1, -1), 12);
    due("dyed(0, 1, 0)", x.dyed(0, 1, 0), 2);
    due("dyed(0, 2, -1)", x.dyed(0, 2, -1), 18);
    due("dyed(0, 2, 0)", x.dyed(0, 2, 0), 2);
    due("dyed(0, 2, 1)", x.dyed(0, 2, 1), 3);
    due("dyed(0, 3, -1)", x.dyed(0, 3, -1), 24);
    due("dyed(0, 3, 2)", x.dyed(0, 3, 2), 4);
    due("dyed(2, 1, 0), of several the first", x.dyed(2, 1, 0), 2);
    due("dyed(2, 3, -1)", x.dyed(2, 3, -1), 24);
    due("dyed(2, 3, 0)", x.dyed(2, 3, 0), 2);
    due("dyed(2, 3, 1)", x.dyed(2, 3, 1), 1);
    due("dyed(2, 3, 2)", x.dyed(2, 3, 2), 4);
    due("it is only thought", x.ofKnot(0, 4), 6);
    x = new CarpetLands();
    due("dyed(0, 3, -1) of one land", x.dyed(0, 3, -1), 36);
    due("dyed(0, 3, 0) of one land", x.dyed(0, 3, 0), 1);
    due("dyed(0, 3, 2) of one land", x.dyed(0, 3, 2), 1);
    // A hole is dyed as a land is, but none becomes a hole.
    x = carpet("000222", "000222", "333333", "333333", "333333", "333333");
    due("dyed(0, 1, -1), a hole", x.dyed(0, 1, -1), 30);
    due("dyed(0, 1, 0), a hole", x.dyed(0, 1, 0), 3);
    due("dyed(35, 3, -1), beside a hole", x.dyed(35, 3, -1), 30);
    // The own colour comes back: 2 lies behind 1, and 1 behind 2 again.
    x = carpet("121333", "333333", "333333", "333333", "333333", "333333");
    due("dyed(0, 2, -1)", x.dyed(0, 2, -1), 35);
    x = carpet("121000", "000000", "000000", "000000", "000000", "000000");
    due("dyed(0, 2, -1), there and back", x.dyed(0, 2, -1), 3);
    due("dyed(0, 2, 0)", x.dyed(0, 2, 0), 2);
    due("dyed(0, 2, 1)", x.dyed(0, 2, 1), 1);
    due("dyed(0, 3, 0), of several the first", x.dyed(0, 3, 0), 1);
    int[][] beyond = {{-1, 1, -1}, {36, 1, -1}, {0, 0, -1}, {0, 4, -1}, {0, 1, -2}, {0, 1, 1}, {0, 2, 2}, {0, 3, 3}, {0, LEAST, 0}, {0, MOST, 0}};
    for (int[] b : beyond) due("dyed(" + b[0] + ", " + b[1] + ", " + b[2] + ")", x.dyed(b[0], b[1], b[2]), BEYOND);
  }

  private static void thens() {
    sentence("promise 29");
    CarpetLands x = carpet("123456", "123456", "123456", "123456", "123456", "123456");
    x.walker(0, 0);
    x.walker(60, 0);
    due("then(0, 0, 0)", x.then(0, 0, 0), 0);
    due("then(0, 0, 1)", x.then(0, 0, 1), 1);
    due("then(1, 0, 0)", x.then(1, 0, 0), 1);
    due("then(7, 0, 0)", x.then(7, 0, 0), 17);
    due("then(7, 0, 1)", x.then(7, 0, 1), 2);
    due("then(100, 0, 0)", x.then(100, 0, 0), 0);
    due("then(100, 0, 1)", x.then(100, 0, 1), 0);
    int at = x.then(10, 1, 0);
    int way = x.then(10, 1, 1);
    due("count(1), only thought", x.count(1), 0);
    due("count(2), only thought", x.count(2), 0);
    due("count(3), only thought", x.count(3), 0);
    x.days(10);
    due("then(10, 1, 0)", at, x.ofWalker(1, 2));
    due("then(10, 1, 1)", way, x.ofWalker(1, 3));
    x.become(0, 40);
    x.put(0, 0, 2);
    due("then(1, 0, 0) on an even day", x.then(1, 0, 0), 6);
    x.days(1);
    x.put(0, 0, 2);
    due("then(1, 0, 0) on an odd day", x.then(1, 0, 0), 0);
    int[][] beyond = {{-1, 0, 0}, {101, 0, 0}, {0, 2, 0}, {0, -1, 0}, {0, 0, 2}, {0, 0, -1}, {MOST, MOST, MOST}};
    for (int[] b : beyond) due("then(" + b[0] + ", " + b[1] + ", " + b[2] + ")", x.then(b[0], b[1], b[2]), BEYOND);
  }

  private static void dueVoice(CarpetLands x, int walker, int act, int number, int answer, int... bodies) {
    sentence("promise 31");
    String call = "voice(" + walker + ", " + act + ", " + number + ") of kind " + x.ofWalker(walker, 0);
    due(call, x.voice(walker, act, number), answer);
    due("count(7) behind " + call, x.count(7), bodies.length);
    sentence("promise 32");
    for (int i = 0; i < bodies.length; i++) due("trace(" + i + ") behind " + call, x.trace(i), bodies[i]);
    due("trace(" + bodies.length + ")", x.trace(bodies.length), NONE);
  }

  private static void voices() {
    sentence("promise 30");
    CarpetLands x = new CarpetLands();
    due("seed(-5)", x.seed(-5), 1);
    due("seed(LOW - 1)", x.seed(-1000000001), -5);
    due("seed(MOST)", x.seed(MOST), -1000000001);
    due("count(8)", x.count(8), MOST);
    due("told(1), any number is no error", x.told(1), 0);
    for (int i = 0; i < 3; i++) x.walker(3, 0);
    // n is 2, m is 3.
    dueVoice(x, 2, 0, 5, 7, 10);
    dueVoice(x, 2, 1, 5, 14, 11, 10);
    dueVoice(x, 2, 2, 5, 2, 12);
    dueVoice(x, 2, 3, 5, 14 ^ 2, 13, 11, 10, 12);
    dueVoice(x, 2, 0, MOST, MOST + 2, 10);
    dueVoice(x, 2, 2, LEAST, LEAST - 3, 12);
    x.become(2, 13);
    dueVoice(x, 2, 0, 5, 21, 20, 10);
    dueVoice(x, 2, 1, 5, 42, 11, 20, 10);
    dueVoice(x, 2, 2, 5, 2, 12);
    dueVoice(x, 2, 3, 5, 42 ^ 2, 13, 11, 20, 10, 12);
    x.become(2, 23);
    dueVoice(x, 2, 0, 5, 7, 10);
    dueVoice(x, 2, 1, 5, 14 + 2, 30, 11, 10, 12);
    dueVoice(x, 2, 3, 5, 16 ^ 2, 13, 30, 11, 10, 12, 12);
    x.become(2, 33);
    dueVoice(x, 2, 1, 5, 14, 11, 10);
    dueVoice(x, 2, 2, 5, -2, 40, 12);
    dueVoice(x, 2, 3, 5, 14 ^ -2, 13, 11, 10, 40, 12);
    x.become(2, 43);
    dueVoice(x, 2, 0, 5, 21, 20, 10);
    dueVoice(x, 2, 3, 5, (42 ^ 2) - 12, 50, 13, 11, 20, 10, 12, 20, 10);
    x.become(2, 53);
    dueVoice(x, 2, 1, 5, 16 + 2, 60, 30, 11, 10, 12);
    dueVoice(x, 2, 3, 5, 18 ^ 2, 13, 60, 30, 11, 10, 12, 12);
    x.become(2, 63);
    dueVoice(x, 2, 2, 5, -2 ^ 2, 70, 40, 12);
    dueVoice(x, 2, 3, 5, 14 - (14 ^ (-2 ^ 2)), 71, 11, 10, 13, 11, 10, 70, 40, 12);
    sentence("promise 31");
    due("voice(3, 0, 0)", x.voice(3, 0, 0), BEYOND);
    due("voice(-1, 0, 0)", x.voice(-1, 0, 0), BEYOND);
    due("voice(0, 4, 0)", x.voice(0, 4, 0), BEYOND);
    due("voice(0, -1, 0)", x.voice(0, -1, 0), BEYOND);
    due("count(7), what was ahead stays", x.count(7), 9);
    due("voice(0, 2, LOW + 2), any number", x.voice(0, 2, -999999998), -1000000001);
    due("told(1), any number is no error", x.told(1), 4);
    sentence("promise 32");
    due("trace(-1)", x.trace(-1), NONE);
    due("trace(MOST)", x.trace(MOST), NONE);
    due("trace(LEAST)", x.trace(LEAST), NONE);
  }

  private static void sheets() {
    sentence("promise 33");
    CarpetLands x = new CarpetLands();
    due("sheet(0, 8, 40)", x.sheet(0, 8, 40), 1);
    due("sheet(1, 16, 0)", x.sheet(1, 16, 0), 1);
    due("judge(1), of none", x.judge(1), 0);
    due("sheet(2, 32, 1)", x.sheet(2, 32, 1), 1);
    due("sheet(0, 8, 41)", x.sheet(0, 8, 41), BEYOND);
    due("sheet(0, 8, MOST)", x.sheet(0, 8, MOST), BEYOND);
    due("sheet(0, 8, -1)", x.sheet(0, 8, -1), STATE);
    due("sheet(0, 8, LEAST)", x.sheet(0, 8, LEAST), STATE);
    due("sheet(0, 9, -1), beyond first", x.sheet(0, 9, -1), BEYOND);
    due("sheet(4, 8, -1), beyond first", x.sheet(4, 8, -1), BEYOND);
    due("sheet(-1, 8, 1)", x.sheet(-1, 8, 1), BEYOND);
    due("sheet(0, 64, 1)", x.sheet(0, 64, 1), BEYOND);
    due("sheet(0, -8, 1)", x.sheet(0, -8, 1), BEYOND);
    due("write(0, 39, 1), it is as it was", x.write(0, 39, 1), 1);
    due("sheet(0, 0, -1), n doesn't matter", x.sheet(0, 0, -1), 1);
    due("judge(0)", x.judge(0), NONE);
    due("sheet(0, 0, 41), n doesn't matter", x.sheet(0, 0, 41), 1);
    due("sheet(0, 8, 36)", x.sheet(0, 8, 36), 1);
    x.write(0, 0, 1);
    due("judge(0)", x.judge(0), 1);
    x.sheet(0, 8, 36);
    due("judge(0), all 0 again", x.judge(0), 0);

    sentence("promise 34");
    due("write(0, 35, 1)", x.write(0, 35, 1), 1);
    due("write(0, 36, 1)", x.write(0, 36, 1), BEYOND);
    due("write(0, -1, 1)", x.write(0, -1, 1), BEYOND);
    due("write(0, LEAST, 1)", x.write(0, LEAST, 1), BEYOND);
    due("write(1, 0, 1), of none", x.write(1, 0, 1), BEYOND);
    due("write(3, 99, 1), missing first", x.write(3, 99, 1), NONE);
    due("write(4, 0, 1)", x.write(4, 0, 1), BEYOND);
    due("write(-1, 0, 1)", x.write(-1, 0, 1), BEYOND);
    int[] all = {8, 16, 32};
    int[] cut = {0x101, 0x10001, 1};
    for (int i = 0; i < 3; i++) {
      x.sheet(3, all[i], 1);
      x.write(3, 0, cut[i]);
      due("judge(3), the lowest bits", x.judge(3), 1);
      x.write(3, 0, -1);
      due("colours(3), the lowest bits", x.colours(3), 0);
      x.write(3, 0, i == 0 ? 0xff00 : 0xff0000);
      due("colours(3), the lowest bits", x.colours(3), i == 2 ? 0 : 1);
      x.knot(0, 0, 1);
    }
    x.sheet(3, 16, 1);
    x.write(3, 0, 0x101);
    due("judge(3), 16 bits hold 0x101", x.judge(3), 0);
    x.sheet(3, 32, 1);
    x.write(3, 0, 0x10001);
    due("judge(3), 32 bits hold 0x10001", x.judge(3), 0);
  }

  /** Checks that a sheet's first numbers are these, by way of the carpet's colours. */
  private static void dueNumbers(CarpetLands x, int s, String numbers) {
    x.colours(s);
    StringBuilder b = new StringBuilder();
    for (int i = 0; i < numbers.length(); i++) b.append(x.ofKnot(i, 0));
    due("numbers of sheet " + s + ": " + b + " for " + numbers, b.toString().equals(numbers) ? 1 : 0, 1);
  }

  private static void moves() {
    sentence("promise 35");
    CarpetLands x = new CarpetLands();
    sheet(x, 0, 8, "1234567");
    sheet(x, 1, 8, "77777");
    sheet(x, 2, 16, "77777");
    due("move(0, 1, 1, 2, 3)", x.move(0, 1, 1, 2, 3), 3);
    dueNumbers(x, 1, "77234");
    dueNumbers(x, 0, "1234567");
    due("move(0, 0, 0, 2, 5)", x.move(0, 0, 0, 2, 5), 5);
    dueNumbers(x, 0, "1212345");
    due("move(0, 2, 0, 0, 5)", x.move(0, 2, 0, 0, 5), 5);
    dueNumbers(x, 0, "1234545");
    due("move(0, 0, 1, 0, 0)", x.move(0, 0, 1, 0, 0), 0);
    due("move(0, 7, 1, 5, 0), at the ends", x.move(0, 7, 1, 5, 0), 0);
    due("move(0, 0, 0, 0, 7)", x.move(0, 0, 0, 0, 7), 7);
    due("move(1, 0, 0, 2, 5)", x.move(1, 0, 0, 2, 5), 5);
    dueNumbers(x, 0, "1277234");
    int[][] beyond = {{0, 0, 4, 0, 1}, {4, 0, 0, 0, 1}, {-1, 0, 0, 0, 1}, {0, 0, -1, 0, 1}, {4, 0, 3, 0, 1}, {0, -1, 1, 0, 1},
        {0, 0, 1, -1, 1}, {0, 0, 1, 0, -1}, {0, 0, 1, 0, 6}, {0, 0, 1, 1, 5}, {0, 3, 1, 0, 5}, {0, 7, 1, 0, 1}, {0, 0, 1, 5, 1},
        {0, MOST, 1, 0, 1}, {0, 0, 1, MOST, 1}, {0, 1, 1, 1, MOST}, {0, LEAST, 1, 0, LEAST}, {1, 0, 0, 0, 7}};
    for (int[] b : beyond) {
      due("move(" + b[0] + ", " + b[1] + ", " + b[2] + ", " + b[3] + ", " + b[4] + ")", x.move(b[0], b[1], b[2], b[3], b[4]), BEYOND);
    }
    due("move(0, 0, 2, 0, 1)", x.move(0, 0, 2, 0, 1), KIND);
    due("move(0, 0, 2, 0, -1), kind first", x.move(0, 0, 2, 0, -1), KIND);
    due("move(0, 0, 3, 0, 1)", x.move(0, 0, 3, 0, 1), NONE);
    due("move(3, 0, 0, 0, -1), missing first", x.move(3, 0, 0, 0, -1), NONE);
    due("move(3, 0, 3, 0, 0)", x.move(3, 0, 3, 0, 0), NONE);
    dueNumbers(x, 0, "1277234");
    dueNumbers(x, 1, "77234");
  }

  private static void coloursAndJudge() {
    sentence("promise 36");
    CarpetLands x = new CarpetLands();
    sheet(x, 0, 8, "2345670");
    due("colours(0)", x.colours(0), 7);
    for (int i = 0; i < 7; i++) due("ofKnot(" + i + ", 0)", x.ofKnot(i, 0), "2345670".charAt(i) - '0');
    due("ofKnot(7, 0)", x.ofKnot(7, 0), 1);
    x.write(0, 0, 1);
    x.write(0, 2, 8);
    x.write(0, 3, 1);
    due("colours(0), up to an 8", x.colours(0), 2);
    due("ofKnot(0, 0)", x.ofKnot(0, 0), 1);
    due("ofKnot(3, 0)", x.ofKnot(3, 0), 5);
    x.sheet(1, 32, 36);
    x.write(1, 35, -1);
    due("colours(1), up to a -1", x.colours(1), 35);
    due("count(2)", x.count(2), 35);
    x.sheet(1, 16, 40);
    due("colours(1), more than knots", x.colours(1), 36);
    x.sheet(1, 16, 0);
    due("colours(1), of none", x.colours(1), 0);
    due("colours(2)", x.colours(2), NONE);
    due("colours(4)", x.colours(4), BEYOND);
    due("colours(-1)", x.colours(-1), BEYOND);
    due("told(2)", x.told(2), 1);

    sentence("promise 37");
    x = new CarpetLands();
    String ones = "1111111111111111111111111111111111111111";
    sheet(x, 0, 32, ones.substring(0, 36));
    due("judge(0)", x.judge(0), -1);
    x.write(0, 35, 0);
    due("judge(0)", x.judge(0), 35);
    x.write(0, 12, 9);
    due("judge(0), the first", x.judge(0), 12);
    sheet(x, 0, 32, ones.substring(0, 35));
    due("judge(0), one lacks", x.judge(0), 35);
    sheet(x, 0, 32, ones.substring(0, 37));
    due("judge(0), one too many", x.judge(0), 36);
    sheet(x, 0, 32, ones);
    due("judge(0), four too many", x.judge(0), 36);
    x.sheet(0, 32, 0);
    due("judge(0), all lack", x.judge(0), 0);
    x.knot(0, 0, 0);
    due("judge(0), a hole lacks", x.judge(0), 0);
    due("judge(1)", x.judge(1), NONE);
    due("judge(4)", x.judge(4), BEYOND);
    due("judge(-1)", x.judge(-1), BEYOND);
  }

  private static void images() {
    sentence("promise 38");
    CarpetLands x = carpet("123456", "234567", "345671", "456712", "567123", "671234");
    x.walker(31, 8);
    x.put(0, 8, 2);
    x.days(7);
    x.seed(77);
    x.tell(5);
    x.tell(6);
    learn(x, 0, "r*2+1");
    learn(x, 1, "w+9");
    feed(x, "r+");
    x.knot(3, 1, 33);
    sheet(x, 0, 8, "12");
    int at = x.ofWalker(0, 2);
    int way = x.ofWalker(0, 3);
    int holes = x.count(2);
    due("image()", x.image(), 1);
    x.loose(20);
    x.become(0, 55);
    x.put(0, 30, 3);
    x.walker(0, 0);
    x.text(0);
    learn(x, 0, "c");
    learn(x, 1, "k");
    x.check();
    x.knot(3, 1, 34);
    x.sheet(0, 0, 0);
    x.voice(0, 0, 0);
    int refusals = x.told(1);
    x.knot(99, 0, 0);

    sentence("promise 39");
    due("restore()", x.restore(), 7);
    int[] counts = {1, 7, holes, 33, x.count(4), 2, 2, 1, 77};
    for (int what = 0; what < counts.length; what++) due("count(" + what + ")", x.count(what), counts[what]);
    due("ofWalker(0, 0)", x.ofWalker(0, 0), 3);
    due("ofWalker(0, 1)", x.ofWalker(0, 1), 1);
    due("ofWalker(0, 2)", x.ofWalker(0, 2), at);
    due("ofWalker(0, 3)", x.ofWalker(0, 3), way);
    due("law(0, 2, 9, 9)", x.law(0, 2, 9, 9), 6);
    due("law(1, 0, 3, 9)", x.law(1, 0, 3, 9), 12);
    feed(x, "c");
    due("text(0), the tape is as it was", x.text(0), 1);
    due("judge(0), sheets are none of it", x.judge(0), NONE);
    due("told(1), nor is what is told", x.told(1), refusals + 1);
    due("trace(0), nor is the trace", x.trace(0), 10);
    for (int k = 0; k < 36; k += 7) due("ofKnot(" + k + ", 0)", x.ofKnot(k, 0), x.ofKnot(k, 0) == 0 ? 0 : (k / 6 + k % 6) % 7 + 1);
    x.knot(0, 0, 5);
    x.days(1);
    due("restore(), it stays", x.restore(), 7);
    due("ofKnot(0, 0)", x.ofKnot(0, 0), 1);
    due("image(), how often isn't of it", x.image(), 2);
    x.days(2);
    due("image(), in place of one ahead", x.image(), 3);
    x.days(3);
    due("restore()", x.restore(), 9);
    CarpetLands y = new CarpetLands();
    due("restore()", y.restore(), NONE);
    due("told(2)", y.told(2), 1);
    y.image();
    learn(y, 0, "5");
    due("restore() of no text", y.restore(), 0);
    due("law(0, 1, 1, 0)", y.law(0, 1, 1, 0), 3);
  }

  private static void checks() {
    sentence("promise 40");
    CarpetLands x = new CarpetLands();
    for (int i = 1; i <= 20; i++) due("tell(" + -i + ")", x.tell(-i), i);
    due("tell(0)", x.tell(0), FULL);
    due("told(4)", x.told(4), 1);
    due("count(6)", x.count(6), 20);

    sentence("promise 41");
    due("check()", x.check(), 1);
    due("count(6), none wait then", x.count(6), 0);
    due("check() of none", x.check(), 0);
    x.walker(60, 14);
    for (int i = 1; i <= 4; i++) x.tell(i);
    due("check(), a swarm eats one a day", x.check(), 0);
    due("count(1), only thought", x.count(1), 0);
    due("count(2), only thought", x.count(2), 0);
    due("ofWalker(0, 2), only thought", x.ofWalker(0, 2), 14);
    x.tell(1);
    x.tell(2);
    x.tell(4);
    x.tell(5);
    due("check(), the third isn't so", x.check(), 3);
    due("count(6)", x.count(6), 0);
    due("tell(1)", x.tell(1), 1);
    for (int i = 2; i <= 19; i++) x.tell(i);
    x.tell(-7);
    int answer = x.check();
    due("check(), the last at most", answer >= 1 && answer <= 20 ? 1 : 0, 1);
    CarpetLands still = new CarpetLands();
    for (int i = 0; i < 19; i++) still.tell(0);
    still.tell(1);
    due("check(), the twentieth isn't so", still.check(), 20);
  }

  private static void counts() {
    sentence("promise 42");
    CarpetLands x = carpet("123456", "700000", "111111", "111111", "111111", "111111");
    x.knot(0, 1, 99);
    x.knot(35, 1, 98);
    due("count(2)", x.count(2), 5);
    due("count(3)", x.count(3), 197);
    due("count(4)", x.count(4), 254);
    lay(x, "020202", "000000", "000000", "000000", "000000", "000007");
    due("count(4), of 1 to 7 alone", x.count(4), 4 | 128);
    due("count(-1)", x.count(-1), BEYOND);
    due("count(9)", x.count(9), BEYOND);
    due("count(LEAST)", x.count(LEAST), BEYOND);
    x.seed(-1000000001);
    due("count(8), any number", x.count(8), -1000000001);
    due("told(1)", x.told(1), 3);
  }

  private static void tolds() {
    sentence("promise 43");
    CarpetLands x = new CarpetLands();
    due("told(0)", x.told(0), BEYOND);
    due("told(6)", x.told(6), BEYOND);
    due("told(LEAST)", x.told(LEAST), BEYOND);
    due("told(1), those of told() too", x.told(1), 3);
    x.trace(0);
    x.trace(0);
    x.sheet(0, 8, -1);
    for (int i = 0; i < 21; i++) x.tell(0);
    x.walker(0, 0);
    x.as(0, 1);
    x.text(0);
    due("told(1)", x.told(1), 3);
    due("told(2)", x.told(2), 2);
    due("told(3)", x.told(3), 1);
    due("told(4)", x.told(4), 1);
    due("told(5)", x.told(5), 1);
  }
}
