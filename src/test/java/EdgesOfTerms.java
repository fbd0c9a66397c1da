/** Each sentence of the document's "Terms" that names a bound or an edge: the last that is so, and the first that isn't. */
public final class EdgesOfTerms extends Due {
  private static final int NORTH = 0;
  private static final int EAST = 1;
  private static final int SOUTH = 2;
  private static final int WEST = 3;

  public static void main(String[] args) {
    callsAtMost();
    asksAtMost();
    errors();
    carpetOfKnots();
    landsAtEdges();
    dayAtEdges();
    walkersAtMost();
    walkersSteps();
    bootsSteps();
    catsSteps();
    catsAtEdges();
    mothsSteps();
    dynastiesSteps();
    wears();
    wearAtMost();
    eats();
    eachDay();
    tapeAtMost();
    numbers();
    blanks();
    openAtOnce();
    comparisons();
    wraps();
    quotientsCut();
    byNought();
    truths();
    allWorkedOut();
    faults();
    patternsRest();
    worthHeld();
    slipsAndMends();
    again();
    staysEdges();
    roads();
    laid();
    layings();
    cuts();
    dyed();
    nextTo();
    frontiers();
    draws();
    voicesWrap();
    traces();
    sheets();
    end();
  }

  /** A carpet of one colour, or of holes. */
  private static CarpetLands plain(int colour) {
    CarpetLands x = new CarpetLands();
    if (colour != 1) for (int k = 0; k < KNOTS; k++) x.knot(k, 0, colour);
    return x;
  }

  private static final int CALLS = 512;

  private static void callsAtMost() {
    sentence("An object is used for at most 512 calls after it has been made: what it has gathered is so to the last");
    CarpetLands x = new CarpetLands();
    for (int i = 1; i <= CALLS; i++) due(x, i, "image");
    x = new CarpetLands();
    for (int i = 1; i < CALLS; i++) due(x, BEYOND, "told", 0);
    due(x, CALLS - 1, "told", 1);
    x = new CarpetLands();
    for (int i = 1; i < CALLS; i++) due(x, 0, "days", 19);
    due(x, 19 * (CALLS - 1), "count", 1);
    x = new CarpetLands();
    int z = 1;
    for (int i = 1; i < CALLS; i++) {
      x.loose(1);
      for (int draw = 0; draw < 2; draw++) z = z * 1103515245 + 12345;
    }
    due(x, z, "count", 8);
    x = new CarpetLands();
    for (int i = 1; i < CALLS - 1; i += 2) {
      due(x, 1, "feed", '1' + i % 7, 1);
      due(x, 1, "text", 0);
    }
    // The last text was 6, as 509 leaves 5 by 7.
    due(x, 7, "law", 0, 0, 0, 0);
    x = new CarpetLands();
    x.walker(60, 0);
    for (int i = 2; i < CALLS - 1; i++) due(x, i * 2, "voice", 0, 1, i);
    due(x, 11, "trace", 0);
    due(x, 2, "count", 7);
  }

  private static void asksAtMost() {
    sentence("An object is used for at most 512 calls after it has been made: what changes nothing answers as at first");
    String[] calls = {"slips", "stays", "check", "restore"};
    int[] due = {31, 255, 0, NONE};
    for (int c = 0; c < calls.length; c++) {
      CarpetLands x = new CarpetLands();
      for (int i = 0; i < CALLS; i++) due(x, due[c], calls[c]);
    }
    String[] asks = {"greatest", "lands", "nextTo", "mends", "again", "cut", "text", "judge", "trace", "count"};
    int[] answers = {36, 0, 0, 0, 1, 2, -10, NONE, NONE, 0};
    for (int c = 0; c < asks.length; c++) {
      CarpetLands x = new CarpetLands();
      for (int i = 0; i < CALLS; i++) due(x, answers[c], asks[c], asks[c].equals("mends") ? 1 : 0);
    }
    CarpetLands x = new CarpetLands();
    for (int i = 0; i < CALLS; i++) due(x, 10, "road", 0, 35, 255);
    x = new CarpetLands();
    for (int i = 0; i < CALLS; i++) due(x, 36, "dyed", 35, 3, -1);
    x = new CarpetLands();
    x.walker(0, 0);
    for (int i = 1; i < CALLS; i++) due(x, 0, "then", 100, 0, 0);
    x = new CarpetLands();
    x.sheet(3, 32, 36);
    for (int i = 1; i < CALLS; i++) due(x, i % 2 == 0 ? 121 : 505, "layings", 3, i % 2);
  }

  private static void errors() {
    sentence("LOW is -1000000000; LOW - 1 BEYOND, LOW - 2 NONE, LOW - 3 STATE, LOW - 4 FULL, LOW - 5 KIND");
    CarpetLands x = new CarpetLands();
    due(x, -1000000001, "knot", 36, 0, 0);
    due(x, -1000000002, "restore");
    due(x, -1000000003, "sheet", 0, 8, -1);
    for (int i = 0; i < 5; i++) x.walker(0, 0);
    due(x, -1000000004, "walker", 0, 0);
    due(x, -1000000005, "as", 0, 1);
    for (int k = 1; k <= 5; k++) due(x, 1, "told", k);
  }

  private static void carpetOfKnots() {
    sentence("6 rows and 6 columns of KNOTS, numbered by rows from 0 to 35");
    CarpetLands x = new CarpetLands();
    learn(x, 0, "r");
    for (int k = 0; k < KNOTS; k++) due(x, k / 6 + 1, "ofKnot", k, 2);
    learn(x, 0, "c");
    for (int k = 0; k < KNOTS; k++) due(x, k % 6 + 1, "ofKnot", k, 2);
    due(x, BEYOND, "ofKnot", -1, 0);
    due(x, BEYOND, "ofKnot", 36, 0);

    sentence("each with a COLOUR (0 to 7; 0 is a HOLE; 1 at first)");
    for (int k = 0; k < KNOTS; k++) due(x, 1, "ofKnot", k, 0);
    due(x, 0, "count", 2);
    due(x, 1, "knot", 14, 0, 7);
    due(x, BEYOND, "knot", 14, 0, 8);
    due(x, 7, "knot", 14, 0, 0);
    due(x, BEYOND, "knot", 14, 0, -1);
    due(x, 0, "ofKnot", 14, 0);
    due(x, 1, "count", 2);

    sentence("and WEAR (0 to 99; 0 at first)");
    for (int k = 0; k < KNOTS; k++) due(x, 0, "ofKnot", k, 1);
    due(x, 0, "knot", 14, 1, 99);
    due(x, BEYOND, "knot", 14, 1, 100);
    due(x, 99, "knot", 14, 1, 0);
    due(x, BEYOND, "knot", 14, 1, -1);
    due(x, 0, "ofKnot", 14, 1);
  }

  private static void landsAtEdges() {
    sentence("A LAND: KNOTS of one COLOUR that hang together (by WAYS)");
    CarpetLands x = carpet("200003", "020030", "002300", "003200", "030020", "300002");
    for (int i = 0; i < 6; i++) due(x, 1, "ofKnot", 7 * i, 4);
    due(x, 6, "lands", 2);
    due(x, 6, "lands", 3);
    // Neither from the end of a row to the start of the next one, nor from the last row to the first.
    x = carpet("222225", "522224", "422222", "222222", "222222", "622227");
    due(x, 1, "ofKnot", 5, 4);
    due(x, 1, "ofKnot", 6, 4);
    due(x, 1, "ofKnot", 11, 4);
    due(x, 1, "ofKnot", 12, 4);
    due(x, 30, "ofKnot", 0, 4);
    x = carpet("300003", "000000", "000000", "000000", "000000", "300003");
    due(x, 4, "lands", 3);
    due(plain(7), 36, "ofKnot", 35, 4);
    due(plain(7), 0, "ofKnot", 35, 5);

    sentence("A LAND: HOLES, too");
    x = carpet("011110", "111111", "111111", "111111", "111111", "011100");
    due(x, 1, "ofKnot", 0, 4);
    due(x, 2, "ofKnot", 35, 4);
    due(x, 34, "ofKnot", 35, 5);
    due(x, 4, "lands", 0);
    due(plain(0), 36, "ofKnot", 0, 4);
    due(plain(0), 1, "lands", 0);
  }

  private static void dayAtEdges() {
    sentence("DAY (0 to 9999; 0 at first)");
    CarpetLands x = new CarpetLands();
    due(x, 0, "count", 1);
    toDay(x, 9998);
    due(x, 0, "days", 1);
    due(x, 9999, "count", 1);
    due(x, STATE, "days", 1);
    due(x, STATE, "loose", 1);
    due(x, 9999, "count", 1);
    learn(x, 0, "d=9999");
    due(x, 2, "ofKnot", 0, 2);
  }

  private static void walkersAtMost() {
    sentence("WALKERS 0, 1, .. (at most 5)");
    CarpetLands x = new CarpetLands();
    for (int i = 0; i < 5; i++) due(x, i, "walker", 0, i);
    due(x, FULL, "walker", 0, 5);
    due(x, 5, "count", 0);
    due(x, 4, "ofWalker", 4, 2);
    due(x, BEYOND, "ofWalker", 5, 2);

    sentence("of KINDS: 0 WALKER; 1 CAT, 2 BOOT, 3 MOTH under WALKER; 4 DYNASTY under CAT; 5 ARMY under BOOT; 6 SWARM under MOTH");
    int[] parent = {-1, 0, 0, 0, 1, 2, 3};
    x = new CarpetLands();
    x.walker(0, 0);
    for (int kind = 0; kind <= 6; kind++) {
      x.become(0, 10 * kind + 9);
      for (int k = 0; k <= 6; k++) {
        boolean is = k == kind || k == parent[kind] || k == 0;
        due("as(0, " + k + ") of kind " + kind, x.as(0, k), is ? 9 : KIND);
      }
    }
    due(x, BEYOND, "as", 0, -1);
    due(x, BEYOND, "as", 0, 7);

    sentence("with a number m (0 to 9), AT a KNOT, a WAY (1 at first)");
    x = new CarpetLands();
    due(x, BEYOND, "walker", -1, 0);
    due(x, 0, "walker", 0, 35);
    due(x, 1, "walker", 69, 0);
    due(x, BEYOND, "walker", 70, 0);
    due(x, 0, "ofWalker", 0, 1);
    due(x, 9, "ofWalker", 1, 1);
    due(x, 35, "ofWalker", 0, 2);
    due(x, 1, "ofWalker", 0, 3);
    due(x, 1, "ofWalker", 1, 3);
  }

  /** Puts walker 0 and lets a day pass; where it is and which way then. */
  private static void dueStep(CarpetLands x, int knot, int way, int thenKnot, int thenWay) {
    x.put(0, knot, way);
    x.days(1);
    String from = "from " + knot + " by way " + way + " as kind " + x.ofWalker(0, 0);
    due("AT " + from, x.ofWalker(0, 2), thenKnot);
    due("WAY " + from, x.ofWalker(0, 3), thenWay);
  }

  private static void walkersSteps() {
    sentence("WALKER: while there is no KNOT that WAY, WAY is one more (0 behind 3); then to the KNOT that WAY");
    CarpetLands x = new CarpetLands();
    x.walker(0, 0);
    int[][] steps = {
      {14, NORTH, 8, NORTH}, {14, EAST, 15, EAST}, {14, SOUTH, 20, SOUTH}, {14, WEST, 13, WEST},
      {0, NORTH, 1, EAST}, {0, EAST, 1, EAST}, {0, SOUTH, 6, SOUTH}, {0, WEST, 1, EAST},
      {5, NORTH, 11, SOUTH}, {5, EAST, 11, SOUTH}, {5, SOUTH, 11, SOUTH}, {5, WEST, 4, WEST},
      {35, NORTH, 29, NORTH}, {35, EAST, 34, WEST}, {35, SOUTH, 34, WEST}, {35, WEST, 34, WEST},
      {30, NORTH, 24, NORTH}, {30, EAST, 31, EAST}, {30, SOUTH, 24, NORTH}, {30, WEST, 24, NORTH},
      {3, NORTH, 4, EAST}, {17, EAST, 23, SOUTH}, {32, SOUTH, 31, WEST}, {18, WEST, 12, NORTH},
      {6, NORTH, 0, NORTH}, {29, SOUTH, 35, SOUTH}, {4, EAST, 5, EAST}, {31, WEST, 30, WEST},
    };
    for (int[] s : steps) dueStep(x, s[0], s[1], s[2], s[3]);
    // A walker minds no colours.
    x = plain(0);
    x.walker(0, 0);
    x.knot(14, 0, 7);
    dueStep(x, 14, EAST, 15, EAST);
  }

  private static void bootsSteps() {
    sentence("BOOT: as WALKER, twice. (ARMY as the KIND above)");
    for (int kind = 2; kind <= 5; kind += 3) {
      CarpetLands x = new CarpetLands();
      x.walker(10 * kind, 0);
      int[][] steps = {
        {14, NORTH, 2, NORTH}, {14, EAST, 16, EAST}, {14, SOUTH, 26, SOUTH}, {14, WEST, 12, WEST},
        {0, WEST, 2, EAST}, {5, NORTH, 17, SOUTH}, {35, SOUTH, 33, WEST}, {30, WEST, 18, NORTH},
        {4, EAST, 11, SOUTH}, {6, NORTH, 1, EAST}, {29, SOUTH, 34, WEST}, {31, WEST, 24, NORTH},
      };
      for (int[] s : steps) dueStep(x, s[0], s[1], s[2], s[3]);
    }
    // Only where it is behind both steps does it wear.
    CarpetLands x = new CarpetLands();
    x.walker(20, 0);
    x.days(1);
    due(x, 0, "ofKnot", 0, 1);
    due(x, 0, "ofKnot", 1, 1);
    due(x, 3, "ofKnot", 2, 1);
  }

  private static void catsSteps() {
    sentence("CAT: of its WAY, the one more, that less by one (3 ahead of 0), the opposite one, in this order, the first where there is a KNOT of the COLOUR");
    int[] beside = {8, 15, 20, 13};
    int[][] orders = {{NORTH, EAST, WEST, SOUTH}, {EAST, SOUTH, NORTH, WEST}, {SOUTH, WEST, EAST, NORTH}, {WEST, NORTH, SOUTH, EAST}};
    for (int way = 0; way < 4; way++) {
      CarpetLands x = new CarpetLands();
      x.walker(10, 14);
      for (int i = 0; i < 4; i++) {
        dueStep(x, 14, way, beside[orders[way][i]], orders[way][i]);
        x.knot(beside[orders[way][i]], 0, i % 2 == 0 ? 7 : 0);
      }
      sentence("CAT: WAY becomes that, it goes there; if there is none, it stays");
      dueStep(x, 14, way, 14, way);
      due(x, 1, "ofKnot", 14, 1);
    }
  }

  private static void catsAtEdges() {
    sentence("CAT: .. the first where there is a KNOT, at the edges");
    CarpetLands x = new CarpetLands();
    x.walker(10, 0);
    int[][] steps = {
      {0, NORTH, 1, EAST}, {0, WEST, 6, SOUTH}, {5, NORTH, 4, WEST}, {5, EAST, 11, SOUTH},
      {35, EAST, 29, NORTH}, {35, SOUTH, 34, WEST}, {30, SOUTH, 31, EAST}, {30, WEST, 24, NORTH},
    };
    for (int[] s : steps) dueStep(x, s[0], s[1], s[2], s[3]);
    x = carpet("112111", "222222", "111111", "111111", "111111", "111111");
    x.walker(10, 1);
    dueStep(x, 1, EAST, 0, WEST);
    dueStep(x, 0, WEST, 1, EAST);
    // Neither from the end of a row to the start of the next one, nor round the edge.
    x = carpet("222223", "322222", "222222", "222222", "222222", "222223");
    x.walker(10, 5);
    for (int way = 0; way < 4; way++) dueStep(x, 5, way, 5, way);
    // A hole is of a colour as well.
    x = carpet("001111", "111111", "111111", "111111", "111111", "111111");
    x.walker(10, 0);
    dueStep(x, 0, SOUTH, 1, EAST);
  }

  private static void mothsSteps() {
    sentence("MOTH: to the KNOT beside it of the greatest COLOUR, of several the one of the least WAY; WAY becomes that");
    int[] beside = {8, 15, 20, 13};
    for (int kind = 3; kind <= 6; kind += 3) {
      for (int best = 0; best < 4; best++) {
        CarpetLands x = new CarpetLands();
        x.walker(10 * kind + 9, 14);
        for (int way = 0; way < 4; way++) x.knot(beside[way], 0, way < best ? 6 : 7);
        dueStep(x, 14, (best + 2) % 4, beside[best], best);
      }
      int[][] corners = {{0, 1, EAST}, {5, 11, SOUTH}, {35, 29, NORTH}, {30, 24, NORTH}, {3, 4, EAST}, {17, 11, NORTH}, {33, 27, NORTH}, {18, 12, NORTH}};
      for (int[] c : corners) {
        for (int colour = 0; colour < 8; colour += 7) {
          CarpetLands x = plain(colour);
          x.walker(10 * kind + 9, 0);
          dueStep(x, c[0], WEST, c[1], c[2]);
        }
      }
    }
    // To each corner, too: from the knot beside it and from the one above or below it.
    int[][] into = {{1, 0, WEST}, {6, 0, NORTH}, {4, 5, EAST}, {11, 5, NORTH}, {31, 30, WEST}, {24, 30, SOUTH}, {34, 35, EAST}, {29, 35, SOUTH}};
    for (int[] i : into) {
      CarpetLands x = new CarpetLands();
      x.walker(39, 0);
      x.knot(i[1], 0, 2);
      dueStep(x, i[0], EAST, i[1], i[2]);
    }
    // The colour where it is doesn't matter, and a hole is the least of all.
    CarpetLands x = plain(0);
    x.walker(39, 14);
    x.knot(14, 0, 7);
    x.knot(13, 0, 1);
    dueStep(x, 14, NORTH, 13, WEST);
  }

  private static void dynastiesSteps() {
    sentence("DYNASTY: as CAT, if DAY is even; else it stays");
    CarpetLands x = new CarpetLands();
    x.walker(40, 0);
    due(x, 1, "then", 1, 0, 0);
    due(x, 1, "then", 2, 0, 0);
    due(x, 2, "then", 3, 0, 0);
    dueStep(x, 0, SOUTH, 6, SOUTH);
    dueStep(x, 0, SOUTH, 0, SOUTH);
    dueStep(x, 0, WEST, 6, SOUTH);
    toDay(x, 9998);
    dueStep(x, 0, SOUTH, 6, SOUTH);
    due(x, 9999, "count", 1);
    due(x, 6, "then", 1, 0, 0);
  }

  private static void wears() {
    sentence("WEARS: WALKER: 1. BOOT: 3. MOTH: 0. ARMY: as BOOT, and m. (Others as the KIND above.)");
    int[] least = {1, 1, 3, 0, 1, 3, 0};
    int[] most = {1, 1, 3, 0, 1, 12, 0};
    for (int kind = 0; kind <= 6; kind++) {
      CarpetLands x = new CarpetLands();
      x.walker(10 * kind, 14);
      due("ofWalker(0, 4) of kind " + kind + " with 0", x.ofWalker(0, 4), least[kind]);
      x.days(1);
      due("count(3) behind a day of kind " + kind + " with 0", x.count(3), least[kind]);
      x.become(0, 10 * kind + 9);
      due("ofWalker(0, 4) of kind " + kind + " with 9", x.ofWalker(0, 4), most[kind]);
      x.days(1);
      due("count(3) behind a day of kind " + kind + " with 9", x.count(3), least[kind] + most[kind]);
    }
  }

  private static void wearAtMost() {
    sentence("WEAR of the KNOT AT which it is is WEARS more (99 at most)");
    int[][] of = {{0, 97, 98}, {0, 98, 99}, {0, 99, 99}, {20, 95, 98}, {20, 96, 99}, {20, 97, 99}, {20, 99, 99},
      {59, 86, 98}, {59, 87, 99}, {59, 88, 99}, {59, 99, 99}, {39, 99, 99}};
    for (int[] o : of) {
      CarpetLands x = new CarpetLands();
      x.walker(o[0], 14);
      for (int k = 0; k < KNOTS; k++) x.knot(k, 1, o[1]);
      x.days(1);
      due("WEAR of " + o[1] + " behind " + o[0], x.ofKnot(x.ofWalker(0, 2), 1), o[2]);
    }
  }

  private static void eats() {
    sentence("EATS: MOTH: yes, if WEAR there is 10 times m or more. SWARM: yes. All others: no");
    for (int m = 0; m <= 9; m++) {
      CarpetLands x = new CarpetLands();
      x.walker(30 + m, 14);
      x.knot(14, 1, 10 * m);
      due("ofWalker(0, 5) of a moth with " + m + " at its wear", x.ofWalker(0, 5), 1);
      x.knot(8, 1, 10 * m);
      due("days(1) of a moth with " + m + " at its wear", x.days(1), 1);
      if (m == 0) continue;
      x = new CarpetLands();
      x.walker(30 + m, 14);
      x.knot(14, 1, 10 * m - 1);
      due("ofWalker(0, 5) of a moth with " + m + " at less", x.ofWalker(0, 5), 0);
      x.knot(8, 1, 10 * m - 1);
      due("days(1) of a moth with " + m + " at less", x.days(1), 0);
    }
    for (int kind = 0; kind <= 6; kind++) {
      CarpetLands x = new CarpetLands();
      x.walker(10 * kind + 9, 14);
      due("ofWalker(0, 5) of kind " + kind + " at 0", x.ofWalker(0, 5), kind == 6 ? 1 : 0);
      for (int k = 0; k < KNOTS; k++) x.knot(k, 1, 99);
      due("ofWalker(0, 5) of kind " + kind + " at 99", x.ofWalker(0, 5), kind == 6 || kind == 3 ? 1 : 0);
      due("days(1) of kind " + kind + " at 99", x.days(1), kind == 6 || kind == 3 ? 1 : 0);
    }

    sentence("and if it EATS, that KNOT is a HOLE");
    CarpetLands x = new CarpetLands();
    x.walker(60, 14);
    x.knot(8, 1, 55);
    due(x, 1, "days", 1);
    due(x, 0, "ofKnot", 8, 0);
    due(x, 55, "ofKnot", 8, 1);
    x = plain(0);
    x.walker(60, 14);
    due(x, 36, "days", 1);
  }

  private static void eachDay() {
    sentence("A DAY: each WALKER by numbers STEPS; then WEAR .., and if it EATS ..");
    // All five stand on one knot in the end: 1, 1, 3 and 3 are worn there, and the moth eats at 8, not at 9.
    for (int m = 0; m <= 1; m++) {
      CarpetLands x = new CarpetLands();
      x.walker(0, 13);
      x.walker(0, 13);
      x.walker(20, 12);
      x.walker(50, 12);
      x.walker(30 + m, 15);
      x.put(4, 15, WEST);
      x.knot(14, 0, 7);
      x.knot(14, 1, m == 0 ? 0 : 1);
      due("days(1), a moth with " + m, x.days(1), m == 0 ? 1 : 0);
      due(x, m == 0 ? 8 : 9, "ofKnot", 14, 1);
    }
    // A moth ahead of the boots sees nothing of their wear.
    CarpetLands x = new CarpetLands();
    x.walker(31, 15);
    x.walker(59, 12);
    x.knot(14, 0, 7);
    due(x, 0, "days", 1);
    due(x, 12, "ofKnot", 14, 1);

    sentence("DAY is 1 more");
    due(x, 1, "count", 1);
    due(new CarpetLands(), 0, "days", 1);
  }

  private static void tapeAtMost() {
    sentence("THE TAPE (bytes, at most 50)");
    CarpetLands x = new CarpetLands();
    for (int i = 1; i <= 6; i++) due(x, 8 * i, "feed", 0x2b312b312b312b31L, 8);
    due(x, FULL, "feed", 0x2b312b31L, 3);
    due(x, 50, "feed", 0x312bL, 2);
    due(x, FULL, "feed", 0x2bL, 1);
    due(x, 50, "count", 5);
    // 1+1+ .. 1++1: the last two stand in the other order.
    due(x, -10 - 48, "text", 0);
    CarpetLands y = new CarpetLands();
    due("a text of 50 bytes", learn(y, 1, "1+1+1+1+1+1+1+1+1+1+1+1+1+1+1+1+1+1+1+1+1+1+1+1+10"), 1);
    due(y, 34, "law", 1, 0, 0, 0);
    due("a number's row of 50 bytes", learn(y, 1, "1*2*1*2*1*2*1*2*1*2*1*2*1*1*1*1*1*1*1*1*1*1*1*1*!0"), 1);
    due(y, 64, "law", 1, 0, 0, 0);
  }

  /** Checks the very int that a text of r and c gives: d is what is due, and is compared with it. */
  private static void dueInt(String text, int r, int c, int value) {
    CarpetLands x = new CarpetLands();
    due("text(0) of (" + text + ")=d", learn(x, 0, "(" + text + ")=d"), 1);
    due(text + " by " + r + ", " + c + " is " + value, x.law(0, r, c, value), 2);
    due(text + " by " + r + ", " + c + " isn't " + ~value, x.law(0, r, c, ~value), 1);
  }

  private static void dueText(int use, String text) {
    CarpetLands x = new CarpetLands();
    due("text(" + use + ") of " + text, learn(x, use, text), 1);
  }

  private static void dueNoText(int use, String text, int fault) {
    CarpetLands x = new CarpetLands();
    dueFault(x, use, text, fault);
    due("law(0, 3, 2, 9), none learnt by " + text, x.law(0, 3, 2, 9), 6);
    due("law(1, 3, 2, 9), none learnt by " + text, x.law(1, 3, 2, 9), 3);
  }

  private static void numbers() {
    sentence("Q: a NUMBER of 1 to 4 digits");
    dueInt("0", 5, 5, 0);
    dueInt("9", 5, 5, 9);
    dueInt("9999", 5, 5, 9999);
    dueInt("0000", 5, 5, 0);
    dueInt("0010", 5, 5, 10);
    dueInt("0123456789".substring(0, 4), 5, 5, 123);
    dueInt("5678", 5, 5, 5678);
    dueNoText(0, "10000", 4);
    dueNoText(0, "00000", 4);
    dueNoText(0, "1+99999", 6);
    dueNoText(0, "(12345)", 5);
    dueNoText(0, "123456789", 4);
    dueNoText(0, "/", 0);
    dueNoText(0, ":", 0);

    sentence("Q: a NAME");
    for (String name : new String[] {"r", "c", "d"}) dueText(0, name);
    for (String name : new String[] {"k", "w", "c"}) dueText(1, name);
    for (String name : new String[] {"k", "w", "R", "C", "q", "s", "b", "e"}) dueNoText(0, name, 0);
    for (String name : new String[] {"r", "d", "K", "W", "j", "l", "v", "x"}) dueNoText(1, name, 0);
    dueNoText(0, "rc", 1);
    dueNoText(0, "r1", 1);
    dueNoText(0, "1r", 1);
    dueNoText(0, "9999r", 4);
  }

  private static void blanks() {
    sentence("No blanks");
    dueNoText(0, " ", 0);
    dueNoText(0, " r", 0);
    dueNoText(0, "r ", 1);
    dueNoText(0, "r +c", 1);
    dueNoText(0, "r+ c", 2);
    dueNoText(0, "1 2", 1);
    dueNoText(0, "( r)", 1);
    dueNoText(0, "(r )", 2);
    dueNoText(0, "! r", 1);
    dueNoText(0, "r\t", 1);
    dueNoText(0, "r\n", 1);
    dueNoText(0, "r\0", 1);
    dueNoText(0, "r\u00a0", 1);
    dueNoText(0, "\u00ff", 0);
  }

  private static void openAtOnce() {
    sentence("At most 5 of ! and ( are open at once");
    dueText(0, "!!!!!r");
    dueText(0, "(((((r)))))");
    dueText(0, "!(!(!r))");
    dueText(0, "(!(!(r)))");
    dueText(0, "((((!r))))");
    dueText(0, "!!!!(r)");
    dueNoText(0, "!!!!!!r", 5);
    dueNoText(0, "((((((r))))))", 5);
    dueNoText(0, "!!!!!(r)", 5);
    dueNoText(0, "(((((!r)))))", 5);
    dueNoText(0, "!(!(!(r)))", 5);
    dueNoText(0, "(!(!(!r)))", 5);
    // What is closed is open no more; a ! is closed behind its Q.
    dueText(0, "!!!!!r+!!!!!c");
    dueText(0, "(((((r)))))*(((((c)))))");
    dueText(0, "((((!r+!c))))");
    dueText(0, "(((((r))+((c)))))");
    dueText(0, "!(!(!r))+!(((!r)))");
    dueText(0, "(((((r)))+(((c)))))");
    dueNoText(0, "((((!r+!!c))))", 8);
    dueNoText(0, "(((((r))+(((c))))))", 11);
    dueNoText(0, "!!!!!r+!!!!!!c", 12);
    dueNoText(0, "!!!!(r+!c)", 7);
    dueText(0, "!!!(r+!c)");
    dueInt("!!!r", 5, 0, 0);
  }

  private static void comparisons() {
    sentence("B: S, or S < S, S = S, S > S");
    for (String one : new String[] {"<", "=", ">"}) {
      dueText(0, "r" + one + "c");
      for (String two : new String[] {"<", "=", ">"}) {
        dueNoText(0, "r" + one + "c" + two + "d", 3);
        dueText(0, "(r" + one + "c)" + two + "d");
        dueText(0, "r" + one + "(c" + two + "d)");
        dueText(0, "r" + one + "c&c" + two + "d");
        dueText(0, "r" + one + "c|c" + two + "d");
        dueNoText(0, "r" + one + two + "c", 2);
      }
    }
    dueNoText(0, "r<c&c<d<r", 7);
    dueNoText(0, "(r<c<d)", 4);
    dueText(0, "r<c&c<d&d<r&r<c");
  }

  private static void wraps() {
    sentence("Ints that wrap");
    dueInt("r+c", MOST, 1, LEAST);
    dueInt("r+c", MOST - 1, 1, MOST);
    dueInt("r+c", LEAST, -1, MOST);
    dueInt("r+c", LEAST, LEAST, 0);
    dueInt("r+c", MOST, MOST, -2);
    dueInt("r-c", LEAST, 1, MOST);
    dueInt("r-c", LEAST + 1, 1, LEAST);
    dueInt("r-c", MOST, -1, LEAST);
    dueInt("r-c", 0, LEAST, LEAST);
    dueInt("r*c", MOST, 2, -2);
    dueInt("r*c", LEAST, -1, LEAST);
    dueInt("r*c", LEAST, 2, 0);
    dueInt("r*c", MOST, MOST, 1);
    dueInt("r*c", 46341, 46341, -2147479015);
    dueInt("9999*9999*9999", 0, 0, 9999 * 9999 * 9999);
    dueInt("r/c", LEAST, -1, LEAST);
    dueInt("r%c", LEAST, -1, 0);
  }

  private static void quotientsCut() {
    sentence("Quotients are cut; / cut, % the rest that it leaves");
    int[][] of = {{7, 2, 3, 1}, {-7, 2, -3, -1}, {7, -2, -3, 1}, {-7, -2, 3, -1}, {1, 2, 0, 1}, {-1, 2, 0, -1}, {6, 7, 0, 6}, {7, 7, 1, 0},
      {MOST, MOST, 1, 0}, {LEAST, MOST, -1, -1}, {MOST, LEAST, 0, MOST}, {LEAST, LEAST, 1, 0}, {LEAST, 1, LEAST, 0}, {MOST, -1, -MOST, 0},
      {LEAST, 2, -1073741824, 0}, {MOST, 2, 1073741823, 1}, {LEAST, 10, -214748364, -8}};
    for (int[] o : of) {
      dueInt("r/c", o[0], o[1], o[2]);
      dueInt("r%c", o[0], o[1], o[3]);
    }
  }

  private static void byNought() {
    sentence("both by 0 are 0");
    for (int r : new int[] {0, 1, -1, MOST, LEAST}) {
      dueInt("r/c", r, 0, 0);
      dueInt("r%c", r, 0, 0);
      dueInt("r/(c-c)", r, 9, 0);
      dueInt("r%!c", r, 9, 0);
      dueInt("1+r/0", r, 0, 1);
      dueInt("1+r%0", r, 0, 1);
    }
    dueInt("r/0/0", 5, 0, 0);
    dueInt("r%0%0", 5, 0, 0);
  }

  private static void truths() {
    sentence("| & < = > ! are 1 or 0, what is not 0 being true");
    int[] some = {LEAST, -1, 0, 1, 2, MOST};
    for (int r : some) {
      dueInt("!r", r, 0, r == 0 ? 1 : 0);
      dueInt("!!r", r, 0, r == 0 ? 0 : 1);
      for (int c : some) {
        dueInt("r|c", r, c, r == 0 && c == 0 ? 0 : 1);
        dueInt("r&c", r, c, r == 0 || c == 0 ? 0 : 1);
        dueInt("r<c", r, c, r < c ? 1 : 0);
        dueInt("r=c", r, c, r == c ? 1 : 0);
        dueInt("r>c", r, c, r > c ? 1 : 0);
      }
    }
    dueInt("5|4|2", 0, 0, 1);
    dueInt("5&4&2", 0, 0, 1);
    dueInt("2|0&0", 0, 0, 1);
    dueInt("0&0|2", 0, 0, 1);
  }

  private static void allWorkedOut() {
    sentence("all is worked out");
    dueInt("0&1/0", 0, 0, 0);
    dueInt("1|1%0", 0, 0, 1);
    dueInt("0&r/c", 9, 0, 0);
    dueInt("1|r%c|r/c", 9, 0, 1);
  }

  private static void faults() {
    sentence("FAULT: the place of the first byte with which no TEXT goes on");
    for (int b = 0; b < 256; b++) {
      String sign = String.valueOf((char) b);
      CarpetLands x = new CarpetLands();
      boolean starts = "0123456789rcd".indexOf(b) >= 0;
      boolean opens = b == '!' || b == '(';
      due("text(0) of byte " + b, learn(x, 0, sign), starts ? 1 : opens ? -11 : -10);
      boolean goesOn = "|&<=>+-*/%".indexOf(b) >= 0;
      due("text(0) of 1234 and byte " + b, learn(x, 0, "1234" + sign), goesOn ? -15 : -14);
      due("text(0) of (r) and byte " + b, learn(x, 0, "(r)" + sign), goesOn ? -14 : -13);
      due("text(0) of (r and byte " + b, learn(x, 0, "(r" + sign), goesOn || b == ')' ? b == ')' ? 1 : -13 : -12);
    }
    dueNoText(0, ")", 0);
    dueNoText(0, "()", 1);
    dueNoText(0, "r)", 1);
    dueNoText(0, "(r))", 3);
    dueNoText(0, "!)", 1);
    dueNoText(0, "r(", 1);
    dueNoText(0, "r!", 1);
    dueNoText(0, "(r)(c)", 3);
    dueNoText(0, "r++c", 2);
    dueNoText(0, "-r", 0);
    dueNoText(0, "+", 0);
    // Only the first one counts, even where the text ends too early as well.
    dueNoText(0, "(r+", 3);
    dueNoText(0, "(r+x", 3);
    dueNoText(0, "xx", 0);

    sentence("how many there are, if it ends too early");
    dueNoText(0, "", 0);
    dueNoText(0, "(", 1);
    dueNoText(0, "!", 1);
    dueNoText(0, "r+", 2);
    dueNoText(0, "(r", 2);
    dueNoText(0, "r|", 2);
    dueNoText(0, "(((((r))))", 10);
    String most = "1+1+1+1+1+1+1+1+1+1+1+1+1+1+1+1+1+1+1+1+1+1+1+1+";
    dueNoText(0, most + "1+", 50);
    dueNoText(0, most + "(1", 50);
    dueNoText(0, most + "1)", 49);
    dueNoText(0, "x" + most + "1", 0);
  }

  private static void patternsRest() {
    sentence("PATTERN: its rest by 7 (0 or more), and 1");
    int[][] of = {{0, 1}, {6, 7}, {7, 1}, {13, 7}, {14, 1}, {-1, 7}, {-6, 2}, {-7, 1}, {-8, 7}, {MOST, 2}, {LEAST, 6}, {LEAST + 1, 7}, {MOST - 1, 1}};
    CarpetLands x = new CarpetLands();
    learn(x, 0, "r");
    for (int[] o : of) due(x, o[1], "law", 0, o[0], 5, 5);
    learn(x, 0, "c");
    for (int[] o : of) due(x, o[1], "law", 0, 5, o[0], 5);
    learn(x, 0, "d");
    for (int[] o : of) due(x, o[1], "law", 0, 5, 5, o[0]);

    sentence("PATTERN: without a TEXT of r+c");
    x = new CarpetLands();
    for (int[] o : of) due(x, o[1], "law", 0, o[0], 0, MOST);
    for (int[] o : of) due(x, o[1], "law", 0, 0, o[0], LEAST);
    due(x, 6, "law", 0, MOST, 1, 0);
    due(x, 2, "law", 0, LEAST, -1, 0);
    due(x, 1, "law", 0, LEAST, LEAST, 0);
  }

  private static void worthHeld() {
    sentence("WORTH: held within 0 to 99");
    int[][] of = {{-1, 0}, {0, 0}, {1, 1}, {98, 98}, {99, 99}, {100, 99}, {LEAST, 0}, {MOST, 99}};
    CarpetLands x = new CarpetLands();
    learn(x, 1, "w");
    for (int[] o : of) due(x, o[1], "law", 1, 50, o[0], 50);
    learn(x, 1, "c");
    for (int[] o : of) due(x, o[1], "law", 1, 50, 50, o[0]);
    learn(x, 1, "k*1");
    for (int[] o : of) due(x, o[1], "law", 1, o[0], 50, 50);

    sentence("WORTH: without a TEXT k");
    x = new CarpetLands();
    for (int[] o : of) due(x, o[1], "law", 1, o[0], 50, 50);
    x.knot(0, 0, 7);
    x.knot(0, 1, 99);
    due(x, 7, "ofKnot", 0, 3);
    x.knot(0, 0, 0);
    due(x, 0, "ofKnot", 0, 3);
  }

  private static void slipsAndMends() {
    sentence("SLIPS: KNOTS, no HOLES, that aren't as the PATTERN tells");
    CarpetLands x = plain(0);
    due(x, 0, "slips");
    x = new CarpetLands();
    learn(x, 0, "0");
    due(x, 0, "slips");
    learn(x, 0, "1");
    due(x, 36, "slips");
    x.knot(35, 0, 0);
    x.knot(0, 0, 2);
    due(x, 34, "slips");

    sentence("MENDS of a COLOUR: HOLES for which the PATTERN tells it");
    x = plain(0);
    learn(x, 0, "6");
    due(x, 36, "mends", 7);
    due(x, 0, "mends", 1);
    learn(x, 0, "0");
    due(x, 36, "mends", 1);
    x = new CarpetLands();
    learn(x, 0, "0");
    due(x, 0, "mends", 1);
  }

  private static void again() {
    sentence("AGAIN by columns (or rows): the least p (1 to 6)");
    String[] byColumns = {"111111", "121212", "123123", "123412", "123451", "123456"};
    for (int p = 1; p <= 6; p++) {
      String row = byColumns[p - 1];
      CarpetLands x = carpet(row, row, row, row, row, row);
      due("again(0) of " + row, x.again(0), p);
      due("again(1) of " + row, x.again(1), 1);
      // The last row alone tells; then the same by rows.
      x = carpet("000000", "000000", "000000", "000000", "000000", row);
      due("again(0) of " + row + " alone", x.again(0), p);
      due("again(1) of " + row + " alone", x.again(1), 1);
      x = plain(0);
      for (int r = 0; r < 6; r++) x.knot(6 * r + 5, 0, row.charAt(r) - '0');
      due("again(0) of a column " + row, x.again(0), 1);
      due("again(1) of a column " + row, x.again(1), p);
    }
    // p apart, not some multiple of it: the last and the first are five apart alone.
    CarpetLands x = carpet("100002", "000000", "000000", "000000", "000000", "000000");
    due(x, 1, "again", 0);
    x = carpet("200000", "000000", "000000", "000000", "000000", "300000");
    due(x, 1, "again", 1);
    // Each two that are p apart, not only the first one and that.
    x = carpet("121112", "222222", "000000", "000000", "000000", "000000");
    due(x, 4, "again", 0);
    x = carpet("120000", "220000", "120000", "120000", "120000", "220000");
    due(x, 4, "again", 1);

    sentence("AGAIN: .. or one of them is a HOLE");
    due(plain(0), 1, "again", 0);
    due(plain(0), 1, "again", 1);
    x = carpet("120000", "000000", "000000", "000000", "000000", "000000");
    due(x, 2, "again", 0);
    due(x, 1, "again", 1);
    x = carpet("102000", "000000", "000000", "000000", "000000", "000000");
    due(x, 1, "again", 0);
    x = carpet("121112", "000000", "000000", "000000", "000000", "000000");
    due(x, 4, "again", 0);
  }

  private static void staysEdges() {
    sentence("STAYS: .. as a set of bits: 0 none .. 4 to 7: mirrored first, then as 0 to 3");
    due(new CarpetLands(), 255, "stays");
    due(plain(0), 255, "stays");
    // A turn that brings one knot elsewhere is no turn by which all stays.
    CarpetLands x = new CarpetLands();
    x.knot(1, 0, 0);
    due(x, 1, "stays");
    x.knot(4, 0, 0);
    due(x, 1 | 16, "stays");
    x.knot(31, 0, 0);
    x.knot(34, 0, 0);
    due(x, 1 | 4 | 16 | 64, "stays");
    x = new CarpetLands();
    x.knot(0, 0, 7);
    due(x, 1 | 128, "stays");
    x = new CarpetLands();
    x.knot(5, 0, 7);
    due(x, 1 | 32, "stays");
    x = new CarpetLands();
    x.knot(1, 0, 7);
    x.knot(11, 0, 7);
    x.knot(34, 0, 7);
    due(x, 1, "stays");
    x.knot(24, 0, 7);
    due(x, 15, "stays");
  }

  private static void roads() {
    sentence("ROAD: .. by KNOTS whose COLOUR is in a set of COLOURS (both, too)");
    CarpetLands x = carpet("700000", "000000", "000000", "000000", "000000", "000000");
    due(x, 1, "road", 0, 1, 129);
    due(x, NONE, "road", 0, 1, 128);
    due(x, NONE, "road", 0, 1, 1);
    due(x, NONE, "road", 1, 0, 1);
    due(x, NONE, "road", 0, 1, 0);
    due(x, NONE, "road", 0, 1, 126);
    due(x, 2, "road", 1, 6, 129);
    due(x, 2, "road", 1, 6, 1);

    sentence("ROAD: no two steps behind one another the same WAY: the fewest steps");
    x = new CarpetLands();
    for (int[] beside : new int[][] {{8, NORTH}, {15, EAST}, {20, SOUTH}, {13, WEST}}) due(x, 1, "road", 14, beside[0], 2);
    for (int two : new int[] {9, 21, 19, 7}) due(x, 2, "road", 14, two, 2);
    for (int two : new int[] {2, 16, 26, 12}) due(x, 4, "road", 14, two, 2);
    due(x, 4, "road", 0, 2, 2);
    due(x, 4, "road", 0, 12, 2);
    due(x, 5, "road", 0, 3, 2);
    due(x, 9, "road", 0, 5, 2);
    due(x, 9, "road", 0, 30, 2);
    due(x, 10, "road", 0, 35, 2);
    due(x, 10, "road", 35, 0, 2);
    due(x, 2, "road", 5, 10, 2);
    due(x, 9, "road", 5, 0, 2);
    // A long one, all around; back it's as long.
    x = carpet("001011", "011101", "110111", "011101", "110111", "011011");
    due(x, 27, "road", 23, 32, 2);
    due(x, 27, "road", 32, 23, 2);
    // Neither from the end of a row to the start of the next one, nor round the edge.
    x = carpet("000001", "100000", "000000", "000000", "000000", "000001");
    due(x, NONE, "road", 5, 6, 2);
    due(x, NONE, "road", 5, 35, 2);
    // On one strip a road may turn back, so no more than a step is won.
    x = carpet("111000", "000000", "000000", "000000", "000000", "000000");
    due(x, 1, "road", 0, 1, 2);
    due(x, NONE, "road", 0, 2, 2);

    sentence("ROAD: (0: it is there)");
    x = carpet("700000", "000000", "000000", "000000", "000000", "000000");
    due(x, 0, "road", 0, 0, 128);
    due(x, 0, "road", 35, 35, 1);
    due(x, NONE, "road", 0, 0, 127);
    due(x, NONE, "road", 35, 35, 254);
    due(x, NONE, "road", 0, 0, 0);
  }

  private static void laid() {
    sentence("A SHEET of 36 numbers tells COLOURS");
    CarpetLands x = new CarpetLands();
    for (int bits = 8; bits <= 32; bits *= 2) {
      int[] lengths = {0, 35, 36, 37, 40};
      for (int n : lengths) {
        x.sheet(0, bits, n);
        due("fits(0, 0, 0) of " + n + " numbers of " + bits, x.fits(0, 0, 0), n == 36 ? 1 : NONE);
        due("layings(0, 0) of " + n + " numbers of " + bits, x.layings(0, 0), n == 36 ? 121 : NONE);
      }
      for (int i = 0; i < KNOTS; i += 35) {
        x.sheet(0, bits, 36);
        x.write(0, i, 7);
        due("fits(0, 0, 0), a 7 on a 1", x.fits(0, 0, 0), 0);
        x.write(0, i, 8);
        due("fits(0, 0, 0), an 8", x.fits(0, 0, 0), NONE);
        x.write(0, i, -1);
        due("fits(0, 0, 0), all bits set", x.fits(0, 0, 0), NONE);
        x.write(0, i, LEAST);
        due("fits(0, 0, 0), the highest bit set", x.fits(0, 0, 0), bits == 32 ? NONE : 1);
      }
    }

    sentence("LAID by rows and columns (each -5 to 5): its KNOT of row r, column c lies upon that of row r and that, column c and that");
    x = carpet("300000", "000000", "000000", "000000", "000000", "000000");
    x.sheet(0, 8, 36);
    for (int i = 0; i < KNOTS; i++) {
      x.write(0, i, 4);
      due("fits by which knot " + i + " lies upon 0", x.fits(0, -(i / 6), -(i % 6)), 0);
      due("fits by which knot " + i + " lies beside 0", x.fits(0, -(i / 6), i % 6 == 5 ? -4 : -(i % 6) - 1), 1);
      x.write(0, i, 3);
      due("fits by which knot " + i + ", a 3, lies upon 0", x.fits(0, -(i / 6), -(i % 6)), 1);
      x.write(0, i, 0);
    }
    x = carpet("000000", "000000", "000000", "000000", "000000", "000003");
    x.sheet(0, 8, 36);
    x.write(0, 0, 4);
    due(x, 0, "fits", 0, 5, 5);
    due(x, 1, "fits", 0, 5, 4);
    due(x, 1, "fits", 0, 4, 5);
    due(x, 1, "fits", 0, 0, 0);
    x = carpet("000003", "000000", "000000", "000000", "000000", "300000");
    x.sheet(0, 8, 36);
    x.write(0, 5, 4);
    x.write(0, 30, 3);
    due(x, 0, "fits", 0, 5, -5);
    due(x, 1, "fits", 0, -5, 5);

    sentence("it FITS, if all KNOTS that lie upon one another (those that are there) are of one COLOUR, or one of them is a HOLE");
    x = new CarpetLands();
    x.sheet(0, 8, 36);
    due(x, 1, "fits", 0, 0, 0);
    for (int i = 0; i < KNOTS; i++) x.write(0, i, 1);
    due(x, 1, "fits", 0, 0, 0);
    x.write(0, 35, 2);
    due(x, 0, "fits", 0, 0, 0);
    due(x, 0, "fits", 0, -5, -5);
    due(x, 1, "fits", 0, 0, 1);
    due(x, 1, "fits", 0, 1, 0);
    x.knot(35, 0, 0);
    due(x, 1, "fits", 0, 0, 0);
    due(x, 0, "fits", 0, -1, 0);
  }

  private static void layings() {
    sentence("LAYINGS: how many FIT; the one by which most lie upon one another");
    CarpetLands x = new CarpetLands();
    x.sheet(0, 8, 36);
    due(x, 121, "layings", 0, 0);
    due(x, 505, "layings", 0, 1);
    for (int i = 0; i < KNOTS; i++) x.write(0, i, 2);
    due(x, 0, "layings", 0, 0);
    due(x, NONE, "layings", 0, 1);

    sentence("LAYINGS: of several the first (by rows, then columns, from -5 on): 100 times (rows and 5), and (columns and 5)");
    int[][] corners = {{0, 1010}, {5, 1000}, {30, 10}, {35, 0}};
    for (int[] c : corners) {
      x.write(0, c[0], 1);
      due(x, 1, "layings", 0, 0);
      due(x, c[1], "layings", 0, 1);
      x.write(0, c[0], 2);
    }
    x.write(0, 0, 1);
    x.write(0, 5, 1);
    due(x, 1000, "layings", 0, 1);
    x.write(0, 30, 1);
    due(x, 10, "layings", 0, 1);
    x.write(0, 35, 1);
    due(x, 0, "layings", 0, 1);
    due(x, 4, "layings", 0, 0);
    // A whole column beside lies upon 6, a whole row likewise: the least rows come first.
    for (int i = 0; i < 6; i++) {
      x.write(0, i, 1);
      x.write(0, 6 * i, 1);
    }
    due(x, 510, "layings", 0, 1);
    // By 3 and 3 there are 9 that lie upon one another, by 0 and 5 but 6.
    for (int i = 0; i < KNOTS; i++) x.write(0, i, i % 6 == 0 || i < 18 && i % 6 < 3 ? 1 : 2);
    due(x, 808, "layings", 0, 1);
    for (int i = 0; i < KNOTS; i++) x.write(0, i, i < 6 || i % 6 < 3 && i < 18 ? 1 : 2);
    due(x, 808, "layings", 0, 1);
  }

  private static void cuts() {
    sentence("CUT: of the 5 cuts behind columns 0 to 4 that by which WORTH of both sides differs least; of several the least");
    for (int column = 0; column <= 5; column++) {
      CarpetLands x = plain(0);
      for (int r = 0; r < 6; r++) x.knot(6 * r + column, 0, 7);
      // All on one side, whichever the cut: the least is the first.
      due("cut(0), all in column " + column, x.cut(0), 0);
      due("cut(1), all in column " + column, x.cut(1), 42);
    }
    for (int column = 0; column <= 4; column++) {
      CarpetLands x = plain(0);
      x.knot(column, 0, 3);
      x.knot(30 + column + 1, 0, 3);
      due("cut(0) between columns " + column + " and the next", x.cut(0), column);
      due("cut(1) between columns " + column + " and the next", x.cut(1), 0);
    }
    CarpetLands x = plain(0);
    due(x, 0, "cut", 0);
    due(x, 0, "cut", 1);
    x.knot(0, 0, 3);
    x.knot(35, 0, 3);
    due(x, 0, "cut", 0);
    due(x, 0, "cut", 1);
    x.knot(34, 0, 1);
    due(x, 0, "cut", 0);
    due(x, 1, "cut", 1);
    learn(x, 1, "(c=5)*9999");
    due(x, 0, "cut", 0);
    due(x, 594, "cut", 1);
    learn(x, 1, "0-9999");
    due(x, 0, "cut", 1);
  }

  private static void dyed() {
    sentence("DYED: .. behind n (1 to 3) floods (its LAND becomes one COLOUR, 1 to 7, each)");
    CarpetLands x = carpet("123456", "000000", "000000", "000000", "000000", "700000");
    due(x, 2, "dyed", 0, 1, -1);
    due(x, 2, "dyed", 0, 1, 0);
    due(x, 3, "dyed", 0, 2, -1);
    due(x, 4, "dyed", 0, 3, -1);
    due(x, 4, "dyed", 0, 3, 2);
    // 7 is the last colour; 0 is none: a hole beside is never joined.
    x = carpet("170000", "000000", "000000", "000000", "000000", "000000");
    due(x, 2, "dyed", 0, 1, -1);
    due(x, 7, "dyed", 0, 1, 0);
    x = carpet("100000", "000000", "000000", "000000", "000000", "000000");
    for (int n = 1; n <= 3; n++) {
      due(x, 1, "dyed", 0, n, -1);
      for (int i = 0; i < n; i++) due(x, 1, "dyed", 0, n, i);
      due(x, BEYOND, "dyed", 0, n, n);
      due(x, BEYOND, "dyed", 0, n, -2);
    }
    due(x, BEYOND, "dyed", 0, 0, -1);
    due(x, BEYOND, "dyed", 0, 4, -1);
    // A land of holes becomes of a colour, too.
    due(x, 36, "dyed", 35, 1, -1);
    due(x, 1, "dyed", 35, 1, 0);
    due(plain(7), 36, "dyed", 0, 3, -1);

    sentence("DYED: of several rows of COLOURS the first tells which");
    x = carpet("213000", "000000", "000000", "000000", "000000", "000000");
    due(x, 2, "dyed", 1, 1, 0);
    due(x, 2, "dyed", 1, 2, 0);
    due(x, 3, "dyed", 1, 2, 1);
    due(x, 3, "dyed", 1, 2, -1);
    due(x, 1, "dyed", 1, 3, 0);
    due(x, 2, "dyed", 1, 3, 1);
    due(x, 3, "dyed", 1, 3, 2);
    due(x, 3, "dyed", 1, 3, -1);
  }

  private static void nextTo() {
    sentence("NEXT TO: COLOURS of all KNOTS beside a LAND, as a set");
    due(new CarpetLands(), 0, "nextTo", 0);
    due(plain(0), 0, "nextTo", 35);
    CarpetLands x = carpet("233333", "033333", "733333", "333333", "333333", "333334");
    due(x, 1 | 8, "nextTo", 0);
    due(x, 4 | 8 | 128, "nextTo", 6);
    due(x, 8, "nextTo", 35);
    due(x, 1 | 4 | 16 | 128, "nextTo", 1);
    // All colours but its own; what is beside the edge, not round it.
    x = carpet("111111", "012345", "671111", "111111", "111111", "111111");
    due(x, 1 | 4 | 8 | 16 | 32 | 128, "nextTo", 0);
    due(x, 4 | 8 | 16 | 32 | 64 | 128, "nextTo", 14);
    x = carpet("211113", "411115", "111111", "111111", "111111", "611117");
    due(x, 2 | 16, "nextTo", 0);
    due(x, 2 | 32, "nextTo", 5);
    due(x, 2, "nextTo", 30);
    due(x, 2, "nextTo", 35);
  }

  private static void frontiers() {
    sentence("FRONTIER of two COLOURS: how many pairs of KNOTS side by side, one of each");
    CarpetLands x = carpet("070707", "707070", "070707", "707070", "070707", "707070");
    due(x, 60, "frontier", 0, 7);
    due(x, 60, "frontier", 7, 0);
    due(x, 0, "frontier", 0, 1);
    due(x, BEYOND, "frontier", 7, 7);
    due(x, BEYOND, "frontier", 0, 0);
    x = carpet("200003", "300002", "000000", "000000", "000000", "300002");
    due(x, 2, "frontier", 2, 3);
    due(x, 5, "frontier", 2, 0);
  }

  private static void draws() {
    sentence("DAYS by draws: z is told (1 at first); each makes it z * 1103515245 + 12345 (an int), and gives z >>> 8");
    CarpetLands x = new CarpetLands();
    due(x, 1, "count", 8);
    due(x, 1, "seed", 1);
    // 1103527590 gives 4310654 (rest 14 by 36); -1770082073 gives 9862832 (rest 0 by 8).
    due(x, 1, "loose", 1);
    due(x, -1770082073, "count", 8);
    due(x, 0, "ofKnot", 14, 0);
    int[] seeds = {0, -1, LEAST, MOST};
    for (int seed : seeds) {
      int one = seed * 1103515245 + 12345;
      int two = one * 1103515245 + 12345;
      x = new CarpetLands();
      x.seed(seed);
      int knot = (int) ((one & 0xffffffffL) / 256 % 36);
      int colour = (int) ((two & 0xffffffffL) / 256 % 8);
      due("loose(1) of " + seed, x.loose(1), colour == 0 ? 1 : 0);
      due(x, two, "count", 8);
      due(x, colour, "ofKnot", knot, 0);
      due(x, 1, "count", 1);
    }

    sentence("Each day two draws: the KNOT .. the COLOUR ..; then a DAY");
    x = new CarpetLands();
    x.walker(10, 14);
    x.loose(1);
    // Knot 14 is a hole, so the cat there has no land to keep to.
    due(x, 14, "ofWalker", 0, 2);
    due(x, 1, "ofKnot", 14, 1);
    // Its COLOUR alone is drawn.
    x = new CarpetLands();
    x.knot(14, 1, 55);
    x.loose(1);
    due(x, 55, "ofKnot", 14, 1);
    due(x, 55, "count", 3);
  }

  private static void voicesWrap() {
    sentence("VOICES of a WALKER, with a number x (ints that go round)");
    CarpetLands x = new CarpetLands();
    for (int i = 0; i < 5; i++) x.walker(9, 0);
    due(x, LEAST + 3, "voice", 4, 0, MOST);
    due(x, LEAST + 4, "voice", 4, 0, LEAST);
    due(x, -2, "voice", 0, 1, MOST);
    due(x, 0, "voice", 0, 1, LEAST);
    due(x, 6, "voice", 4, 1, MOST);
    due(x, MOST - 8, "voice", 0, 2, LEAST);
    due(x, MOST - 9, "voice", 0, 2, MOST);
    x.become(4, 19);
    due(x, 3 * (LEAST + 3), "voice", 4, 0, MOST);
    x.become(4, 39);
    due(x, -(LEAST + 8), "voice", 4, 2, LEAST + 17);
    due(x, LEAST, "voice", 4, 2, LEAST + 9);
    x.become(4, 50);
    due(x, 2 * (LEAST + 4) - 1, "voice", 4, 1, MOST);

    for (int kind = 0; kind <= 6; kind++) for (int v : new int[] {5, -7, MOST, LEAST}) dueVoices(kind, v);

    sentence("n is the number, m as told");
    for (int i = 0; i < 5; i++) {
      x.become(i, i);
      due(x, 100 + i, "voice", i, 0, 100);
      due(x, 100 - i, "voice", i, 2, 100);
    }
  }

  private static final int[] PLAIN_WEARS = {11, 10};
  private static final int[] CATS_WALKS = {20, 10};
  private static final int[] CATS_WEARS = {11, 20, 10};
  private static final int[] BOOTS_WEARS = {30, 11, 10, 12};
  private static final int[] ARMYS_WEARS = {60, 30, 11, 10, 12};
  /** What is begun for each act, by kinds. */
  private static final int[][][] BODIES = {
    {{10}, PLAIN_WEARS, {12}, {13, 11, 10, 12}},
    {CATS_WALKS, CATS_WEARS, {12}, {13, 11, 20, 10, 12}},
    {{10}, BOOTS_WEARS, {12}, {13, 30, 11, 10, 12, 12}},
    {{10}, PLAIN_WEARS, {40, 12}, {13, 11, 10, 40, 12}},
    {CATS_WALKS, CATS_WEARS, {12}, {50, 13, 11, 20, 10, 12, 20, 10}},
    {{10}, ARMYS_WEARS, {12}, {13, 60, 30, 11, 10, 12, 12}},
    {{10}, PLAIN_WEARS, {70, 40, 12}, {71, 11, 10, 13, 11, 10, 70, 40, 12}},
  };

  /** Each act of walker 4 as one of a kind with 7, at x. */
  private static void dueVoices(int kind, int x) {
    int n = 4;
    int m = 7;
    boolean isCat = kind == 1 || kind == 4;
    int walks = isCat ? (x + n) * 3 : x + n;
    int wears = walks * 2;
    if (kind == 2) wears = (x + n) * 2 - (1 - m);
    if (kind == 5) wears = (x + 1 + n) * 2 - (1 - m);
    int eats = x - m;
    if (kind == 3) eats = -(x - m);
    if (kind == 6) eats = -(x - m) ^ n;
    int tells = wears ^ eats;
    if (kind == 4) tells = (wears ^ eats) - (2 + n) * 3;
    if (kind == 6) tells = wears - (wears ^ eats);
    int[] answers = {walks, wears, eats, tells};
    CarpetLands c = new CarpetLands();
    for (int i = 0; i <= n; i++) c.walker(10 * kind + m, 14);
    for (int act = 0; act < 4; act++) {
      due("voice(4, " + act + ", " + x + ") of kind " + kind, c.voice(n, act, x), answers[act]);
      int[] bodies = BODIES[kind][act];
      due(c, bodies.length, "count", 7);
      for (int i = 0; i < bodies.length; i++) due("trace(" + i + ") of act " + act + " of kind " + kind, c.trace(i), bodies[i]);
      due(c, NONE, "trace", bodies.length);
    }
  }

  private static void traces() {
    sentence("THE TRACE: the numbers of BODIES of the latest voice(), as they began, the first 40");
    CarpetLands x = new CarpetLands();
    due(x, 0, "count", 7);
    due(x, NONE, "trace", 0);
    x.walker(65, 0);
    x.voice(0, 3, 1);
    due(x, 9, "count", 7);
    int[] bodies = {71, 11, 10, 13, 11, 10, 70, 40, 12};
    for (int i = 0; i < 9; i++) due(x, bodies[i], "trace", i);
    due(x, NONE, "trace", 9);
    due(x, NONE, "trace", 39);
    due(x, NONE, "trace", 40);
    // The latest alone; one that is refused is none.
    x.voice(0, 0, 1);
    due(x, 1, "count", 7);
    due(x, 10, "trace", 0);
    due(x, NONE, "trace", 1);
    due(x, BEYOND, "voice", 0, 4, 1);
    due(x, 1, "count", 7);
    due(x, 10, "trace", 0);
  }

  private static void sheets() {
    sentence("SHEETS 0 .. 3 .., or missing (as at first)");
    CarpetLands x = new CarpetLands();
    for (int s = 0; s <= 3; s++) {
      due(x, NONE, "judge", s);
      due(x, NONE, "colours", s);
      due(x, NONE, "write", s, 0, 0);
      due(x, NONE, "fits", s, 0, 0);
      due(x, NONE, "move", s, 0, s, 0, 0);
    }
    due(x, BEYOND, "judge", -1);
    due(x, BEYOND, "judge", 4);

    sentence("SHEETS are rows of 8, 16, 32 bits, at most 40 numbers");
    int[] none = {-32, -8, -1, 1, 4, 7, 9, 15, 17, 24, 31, 33, 64, MOST, LEAST};
    for (int bits : none) due(x, BEYOND, "sheet", 0, bits, 1);
    due(x, NONE, "judge", 0);
    for (int bits = 8; bits <= 32; bits *= 2) {
      due(x, 1, "sheet", 0, bits, 40);
      due(x, 1, "write", 0, 39, 1);
      due(x, BEYOND, "write", 0, 40, 1);
      due(x, BEYOND, "sheet", 0, bits, 41);
      due(x, 1, "write", 0, 39, 1);
      due(x, 1, "sheet", 0, bits, 0);
      due(x, BEYOND, "write", 0, 0, 1);
    }
    // An 8-bit number holds 255 at most, a 16-bit one 65535: one more is 0.
    int[][] wraps = {{8, 256}, {16, 65536}};
    for (int[] w : wraps) {
      x.sheet(0, w[0], 1);
      x.write(0, 0, w[1] + 1);
      due("judge(0) of " + (w[1] + 1) + " in " + w[0] + " bits", x.judge(0), 1);
      x.write(0, 0, w[1] - 1);
      due("colours(0) of " + (w[1] - 1) + " in " + w[0] + " bits", x.colours(0), 0);
      x.write(0, 0, w[1] / 2);
      due("colours(0) of " + w[1] / 2 + " in " + w[0] + " bits", x.colours(0), 0);
    }
  }
}
