/** Each promise's own sentence: the last argument that is allowed, the first that isn't, nothing there, and full. */
public final class EdgesOfPromises extends Due {
  public static void main(String[] args) {
    newObject();
    knot();
    ofKnot();
    weave();
    mend();
    walker();
    ofWalker();
    put();
    become();
    as();
    feedTape();
    text();
    law();
    days();
    loose();
    lands();
    greatest();
    nextTo();
    frontier();
    slips();
    mends();
    again();
    stays();
    road();
    fits();
    layings();
    cut();
    dyed();
    then();
    seed();
    voice();
    trace();
    sheetOfNumbers();
    write();
    move();
    moveInOrder();
    colours();
    judge();
    image();
    restore();
    tell();
    check();
    count();
    told();
    end();
  }

  /** Checks that a call is refused with one answer, for each of some values in place of one argument. */
  private static void dueEach(CarpetLands x, long want, String call, int place, long[] values, long... arguments) {
    long[] given = arguments.clone();
    for (long v : values) {
      given[place] = v;
      due(x, want, call, given);
    }
  }

  private static long[] each(long... values) {
    return values;
  }

  private static CarpetLands holes() {
    CarpetLands x = new CarpetLands();
    for (int k = 0; k < KNOTS; k++) x.knot(k, 0, 0);
    return x;
  }

  private static CarpetLands withWalkers(int... kms) {
    CarpetLands x = new CarpetLands();
    for (int km : kms) x.walker(km, 14);
    return x;
  }

  private static void newObject() {
    sentence("promise 1: All as at first; no WALKERS");
    CarpetLands x = new CarpetLands();
    int[] counts = {0, 0, 0, 0, 2, 0, 0, 0, 1};
    for (int what = 0; what <= 8; what++) due(x, counts[what], "count", what);
    for (int k = 0; k < KNOTS; k++) {
      due(x, 1, "ofKnot", k, 0);
      due(x, 0, "ofKnot", k, 1);
      due(x, (k / 6 + k % 6) % 7 + 1, "ofKnot", k, 2);
      due(x, 1, "ofKnot", k, 3);
      due(x, 36, "ofKnot", k, 4);
      due(x, 0, "ofKnot", k, 5);
    }
    for (int k = 1; k <= 5; k++) due(x, 0, "told", k);
    due(x, BEYOND, "ofWalker", 0, 0);
    due(x, BEYOND, "put", 0, 0, 0);
    due(x, BEYOND, "become", 0, 0);
    due(x, BEYOND, "as", 0, 0);
    due(x, BEYOND, "then", 0, 0, 0);
    due(x, BEYOND, "voice", 0, 0, 0);
    due(x, NONE, "trace", 0);
    due(x, NONE, "restore");
    for (int s = 0; s <= 3; s++) due(x, NONE, "judge", s);
    due(x, 0, "check");
    due(x, -10, "text", 0);
    due(x, -10, "text", 1);
    due(x, 6, "told", 1);
    due(x, 6, "told", 2);
    due(x, 0, "walker", 0, 0);
  }

  private static void knot() {
    sentence("promise 2: COLOUR (what 0), WEAR (1) of a KNOT becomes v: what it was");
    CarpetLands x = new CarpetLands();
    for (int k = 0; k < KNOTS; k += 35) {
      due(x, 1, "knot", k, 0, 7);
      due(x, 7, "knot", k, 0, 0);
      due(x, 0, "knot", k, 0, 0);
      due(x, 0, "knot", k, 1, 99);
      due(x, 99, "knot", k, 1, 0);
      due(x, 0, "ofKnot", k, 0);
    }
    due(x, 2, "count", 2);
    due(x, 0, "count", 3);

    sentence("promise 2: BEYOND");
    x.knot(0, 1, 50);
    dueEach(x, BEYOND, "knot", 0, each(-1, 36, LEAST, MOST), 0, 0, 5);
    dueEach(x, BEYOND, "knot", 0, each(-1, 36, LEAST, MOST), 0, 1, 5);
    dueEach(x, BEYOND, "knot", 1, each(-1, 2, LEAST, MOST), 0, 0, 5);
    dueEach(x, BEYOND, "knot", 2, each(-1, 8, 99, LEAST, MOST), 0, 0, 0);
    dueEach(x, BEYOND, "knot", 2, each(-1, 100, LEAST, MOST), 0, 1, 0);
    due(x, 21, "told", 1);
    due(x, 0, "ofKnot", 0, 0);
    due(x, 50, "ofKnot", 0, 1);
  }

  private static void ofKnot() {
    sentence("promise 3: Of a KNOT: 0 COLOUR, 1 WEAR, 2 what the PATTERN tells, 3 WORTH, 4 how great its LAND is, 5 the least KNOT of its LAND");
    CarpetLands x = carpet("111111", "111111", "111111", "111111", "111111", "111117");
    x.knot(35, 1, 99);
    int[] last = {7, 99, 4, 7, 1, 35};
    int[] first = {1, 0, 1, 1, 35, 0};
    for (int what = 0; what <= 5; what++) {
      due(x, last[what], "ofKnot", 35, what);
      due(x, first[what], "ofKnot", 0, what);
    }
    learn(x, 0, "6-r*0");
    learn(x, 1, "w*2");
    due(x, 7, "ofKnot", 35, 2);
    due(x, 99, "ofKnot", 35, 3);
    due(x, 0, "ofKnot", 0, 3);

    sentence("promise 3: BEYOND");
    dueEach(x, BEYOND, "ofKnot", 0, each(-1, 36, LEAST, MOST), 0, 0);
    dueEach(x, BEYOND, "ofKnot", 1, each(-1, 6, LEAST, MOST), 0, 0);
    due(x, BEYOND, "ofKnot", 36, 6);
    due(x, 9, "told", 1);
  }

  private static void weave() {
    sentence("promise 4: All KNOTS become as the PATTERN tells, WEAR 0: SLIPS there were");
    CarpetLands x = holes();
    for (int k = 0; k < KNOTS; k++) x.knot(k, 1, 99);
    due(x, 0, "weave");
    due(x, 0, "count", 2);
    due(x, 0, "count", 3);
    due(x, 0, "slips");
    x = new CarpetLands();
    learn(x, 0, "6");
    due(x, 36, "weave");
    due(x, 36, "greatest", 0);
    due(x, 7, "ofKnot", 35, 0);
    due(x, 0, "weave");
    x.knot(0, 0, 6);
    x.knot(35, 0, 0);
    due(x, 1, "weave");
    due(x, 7, "ofKnot", 35, 0);
  }

  private static void mend() {
    sentence("promise 5: HOLES alone become as the PATTERN tells: how many");
    CarpetLands x = holes();
    for (int k = 0; k < KNOTS; k++) x.knot(k, 1, 99);
    due(x, 36, "mend");
    due(x, 0, "count", 2);
    due(x, 36 * 99, "count", 3);
    due(x, 0, "slips");
    due(x, 0, "mend");
    x.knot(0, 0, 0);
    x.knot(35, 0, 0);
    x.knot(1, 0, 7);
    due(x, 2, "mend");
    due(x, 1, "ofKnot", 0, 0);
    due(x, 4, "ofKnot", 35, 0);
    due(x, 7, "ofKnot", 1, 0);
    // By the TEXT there is, and the DAY it is; an image of another one doesn't matter, nor what was thought.
    x = holes();
    x.image();
    x.check();
    learn(x, 0, "d+r");
    x.days(2);
    due(x, 6, "mends", 3);
    due(x, 36, "mend");
    for (int k = 0; k < KNOTS; k++) due(x, (2 + k / 6) % 7 + 1, "ofKnot", k, 0);
    x.days(1);
    x.knot(35, 0, 0);
    due(x, 1, "mend");
    due(x, 2, "ofKnot", 35, 0);
    due(x, 1, "ofKnot", 34, 0);
  }

  private static void walker() {
    sentence("promise 6: A WALKER (km: 10 times the KIND, and m) AT a KNOT: its number. BEYOND. FULL");
    CarpetLands x = new CarpetLands();
    dueEach(x, BEYOND, "walker", 0, each(-1, 70, 100, LEAST, MOST), 0, 0);
    dueEach(x, BEYOND, "walker", 1, each(-1, 36, LEAST, MOST), 0, 0);
    due(x, 0, "count", 0);
    int[][] of = {{0, 0}, {69, 35}, {9, 1}, {60, 34}, {35, 7}};
    for (int i = 0; i < 5; i++) due(x, i, "walker", of[i][0], of[i][1]);
    for (int i = 0; i < 5; i++) {
      due(x, of[i][0] / 10, "ofWalker", i, 0);
      due(x, of[i][0] % 10, "ofWalker", i, 1);
      due(x, of[i][1], "ofWalker", i, 2);
      due(x, 1, "ofWalker", i, 3);
    }
    due(x, FULL, "walker", 0, 0);
    due(x, FULL, "walker", 69, 35);
    due(x, 5, "count", 0);

    sentence("promise 6: BEYOND ahead of FULL");
    dueEach(x, BEYOND, "walker", 0, each(-1, 70, LEAST, MOST), 0, 0);
    dueEach(x, BEYOND, "walker", 1, each(-1, 36, LEAST, MOST), 0, 0);
    due(x, 17, "told", 1);
    due(x, 2, "told", 4);
  }

  private static void ofWalker() {
    sentence("promise 7: Of a WALKER: 0 KIND, 1 m, 2 AT, 3 WAY, 4 WEARS, 5 whether it would EAT where it is AT");
    CarpetLands x = new CarpetLands();
    x.walker(0, 0);
    x.walker(59, 35);
    x.walker(60, 1);
    x.put(1, 35, 3);
    x.put(2, 34, 0);
    int[][] of = {{0, 0, 0, 1, 1, 0}, {5, 9, 35, 3, 12, 0}, {6, 0, 34, 0, 0, 1}};
    for (int w = 0; w < 3; w++) for (int what = 0; what <= 5; what++) due(x, of[w][what], "ofWalker", w, what);
    // A hole where it is hinders no walker from eating, nor does a day's number.
    x.knot(34, 0, 0);
    due(x, 1, "ofWalker", 2, 5);

    sentence("promise 7: BEYOND");
    dueEach(x, BEYOND, "ofWalker", 0, each(-1, 3, 4, 5, LEAST, MOST), 0, 0);
    dueEach(x, BEYOND, "ofWalker", 1, each(-1, 6, LEAST, MOST), 0, 0);
    due(x, 10, "told", 1);
    x.walker(0, 0);
    due(x, 0, "ofWalker", 3, 0);
  }

  private static void put() {
    sentence("promise 8: A WALKER is AT a KNOT, has a WAY: where it was");
    CarpetLands x = withWalkers(0, 13, 25, 31, 69);
    due(x, 14, "put", 0, 0, 0);
    due(x, 0, "put", 0, 35, 3);
    due(x, 35, "put", 0, 35, 3);
    due(x, 14, "put", 4, 35, 3);
    due(x, 35, "ofWalker", 4, 2);
    due(x, 3, "ofWalker", 4, 3);
    due(x, 6, "ofWalker", 4, 0);
    due(x, 9, "ofWalker", 4, 1);

    sentence("promise 8: BEYOND");
    dueEach(x, BEYOND, "put", 0, each(-1, 5, LEAST, MOST), 0, 0, 0);
    dueEach(x, BEYOND, "put", 1, each(-1, 36, LEAST, MOST), 0, 0, 0);
    dueEach(x, BEYOND, "put", 2, each(-1, 4, LEAST, MOST), 0, 0, 0);
    due(x, 12, "told", 1);
    due(x, 35, "ofWalker", 0, 2);
    due(x, 3, "ofWalker", 0, 3);
    dueEach(new CarpetLands(), BEYOND, "put", 0, each(0, 1, 4), 0, 0, 0);
  }

  private static void become() {
    sentence("promise 9: A WALKER becomes one of a KIND, with m (km): the KIND that it was");
    CarpetLands x = withWalkers(0, 13, 25, 31, 69);
    x.put(0, 35, 3);
    due(x, 0, "become", 0, 69);
    due(x, 6, "become", 0, 60);
    due(x, 0, "ofWalker", 0, 1);
    due(x, 6, "become", 0, 9);
    due(x, 9, "ofWalker", 0, 1);
    due(x, 0, "become", 0, 0);
    due(x, 6, "become", 4, 0);
    due(x, 35, "ofWalker", 0, 2);
    due(x, 3, "ofWalker", 0, 3);

    sentence("promise 9: BEYOND");
    x.become(0, 42);
    dueEach(x, BEYOND, "become", 0, each(-1, 5, LEAST, MOST), 0, 0);
    dueEach(x, BEYOND, "become", 1, each(-1, 70, LEAST, MOST), 0, 0);
    due(x, 8, "told", 1);
    due(x, 4, "ofWalker", 0, 0);
    due(x, 2, "ofWalker", 0, 1);
    due(new CarpetLands(), BEYOND, "become", 0, 0);
  }

  private static void as() {
    sentence("promise 10: A WALKER as one of a KIND: m. BEYOND. KIND: it isn't of that KIND, nor of one under it");
    CarpetLands x = withWalkers(0, 19, 25, 31, 68);
    due(x, 0, "as", 0, 0);
    for (int k = 1; k <= 6; k++) due(x, KIND, "as", 0, k);
    due(x, 9, "as", 1, 0);
    due(x, 9, "as", 1, 1);
    due(x, KIND, "as", 1, 4);
    due(x, 8, "as", 4, 0);
    due(x, 8, "as", 4, 3);
    due(x, 8, "as", 4, 6);
    due(x, KIND, "as", 4, 5);
    due(x, KIND, "as", 3, 6);
    due(x, 9, "told", 5);
    dueEach(x, BEYOND, "as", 0, each(-1, 5, LEAST, MOST), 0, 0);
    dueEach(x, BEYOND, "as", 0, each(-1, 5, LEAST, MOST), 0, 1);
    dueEach(x, BEYOND, "as", 1, each(-1, 7, LEAST, MOST), 0, 0);
    due(x, 12, "told", 1);
    due(x, 9, "told", 5);
  }

  private static void feedTape() {
    sentence("promise 11: The n lowest bytes (1 .. 8) of a word, the lowest first, come to THE TAPE: how many there are");
    CarpetLands x = new CarpetLands();
    due(x, 1, "feed", Long.MAX_VALUE, 1);
    due(x, 9, "feed", Long.MIN_VALUE, 8);
    due(x, -10, "text", 0);
    due(x, 1, "feed", 0x7777777777777732L, 1);
    due(x, 1, "text", 0);
    due(x, 3, "law", 0, 0, 0, 0);
    // 1<r*c+0: each of the eight bytes tells, in its order.
    due(x, 8, "feed", '(' | 'r' << 8 | '-' << 16 | 'c' << 24 | (long) ')' << 32 | (long) '/' << 40 | (long) 'd' << 48 | (long) '0' << 56, 8);
    due(x, -17, "text", 0);
    due(x, 8, "feed", '(' | 'r' << 8 | '-' << 16 | 'c' << 24 | (long) ')' << 32 | (long) '/' << 40 | (long) '1' << 48 | (long) '2' << 56, 8);
    due(x, 1, "text", 0);
    due(x, 4, "law", 0, 100, 64, 0);

    sentence("promise 11: BEYOND. FULL");
    dueEach(x, BEYOND, "feed", 1, each(-1, 0, 9, LEAST, MOST), 0x72, 0);
    due(x, 0, "count", 5);
    for (int i = 1; i <= 6; i++) due(x, 8 * i, "feed", 0, 8);
    for (int n = 3; n <= 8; n++) due(x, FULL, "feed", 0, n);
    due(x, 48, "count", 5);
    due(x, 50, "feed", 0, 2);
    for (int n = 1; n <= 8; n++) due(x, FULL, "feed", 0, n);
    due(x, 50, "count", 5);
    due(x, 14, "told", 4);

    sentence("promise 11: BEYOND ahead of FULL");
    dueEach(x, BEYOND, "feed", 1, each(-1, 0, 9, LEAST, MOST), 0x72, 0);
    due(x, 10, "told", 1);
    due(x, 14, "told", 4);
  }

  private static void text() {
    sentence("promise 12: THE TAPE, which is empty then, is the TEXT of a USE (0, 1), in place of one ahead: 1");
    CarpetLands x = new CarpetLands();
    for (int use = 0; use <= 1; use++) {
      due("text(" + use + ") of 2", learn(x, use, "2"), 1);
      due(x, 0, "count", 5);
      due("text(" + use + ") of c", learn(x, use, "c"), 1);
    }
    due(x, 6, "law", 0, 0, 5, 0);
    due(x, 5, "law", 1, 0, 0, 5);

    sentence("promise 12: BEYOND (THE TAPE stays)");
    feed(x, "3");
    dueEach(x, BEYOND, "text", 0, each(-1, 2, LEAST, MOST), 0);
    due(x, 1, "count", 5);
    due(x, 4, "told", 1);
    due(x, 1, "text", 1);
    due(x, 3, "law", 1, 0, 0, 5);

    sentence("promise 12: -10 less the FAULT (no ERROR; the one ahead stays; THE TAPE is empty, too)");
    due(x, -10, "text", 0);
    due(x, -10, "text", 1);
    dueFault(x, 0, "x", 0);
    dueFault(x, 1, "2+", 2);
    String fifty = "1+1+1+1+1+1+1+1+1+1+1+1+1+1+1+1+1+1+1+1+1+1+1+1+1+";
    dueFault(x, 0, fifty, 50);
    dueFault(x, 1, fifty.substring(0, 49) + "x", 49);
    due(x, 6, "law", 0, 0, 5, 0);
    due(x, 3, "law", 1, 0, 0, 5);
    due(x, 4, "told", 1);
    for (int k = 2; k <= 5; k++) due(x, 0, "told", k);
    due(x, 8, "feed", 0, 8);
  }

  private static void law() {
    sentence("promise 13: What a USE gives with its NAMES in order as a, b, c. BEYOND");
    CarpetLands x = new CarpetLands();
    learn(x, 0, "r*100+c*10+d");
    learn(x, 1, "k*25+w*5+c");
    due(x, 123 % 7 + 1, "law", 0, 1, 2, 3);
    due(x, 38, "law", 1, 1, 2, 3);
    learn(x, 0, "r-c-d");
    due(x, 2, "law", 0, MOST, 0, 0);
    due(x, 6, "law", 0, LEAST, 0, 0);
    due(x, 6, "law", 0, 0, LEAST, 0);
    due(x, 6, "law", 0, 0, 0, LEAST);
    due(x, 7, "law", 0, 0, MOST, 0);
    due(x, 7, "law", 0, 0, 0, MOST);
    due(x, 0, "law", 1, LEAST, 0, 0);
    due(x, 99, "law", 1, 0, 0, MOST);
    due(x, 0, "law", 1, 0, 0, LEAST);
    dueEach(x, BEYOND, "law", 0, each(-1, 2, LEAST, MOST), 0, 1, 2, 3);
    due(x, 4, "told", 1);
  }

  private static void days() {
    sentence("promise 14: n (1 to 100) DAYS: how many HOLES there are then");
    CarpetLands x = new CarpetLands();
    due(x, 0, "days", 1);
    due(x, 0, "days", 100);
    due(x, 101, "count", 1);
    due(holes(), 36, "days", 1);
    due(holes(), 36, "days", 100);

    sentence("promise 14: BEYOND. STATE: DAY would be above 9999");
    x = new CarpetLands();
    dueEach(x, BEYOND, "days", 0, each(-1, 0, 101, LEAST, MOST), 1);
    due(x, 0, "count", 1);
    toDay(x, 9899);
    due(x, 0, "days", 100);
    due(x, 9999, "count", 1);
    for (int n : new int[] {1, 2, 99, 100}) due(x, STATE, "days", n);
    x = new CarpetLands();
    toDay(x, 9900);
    due(x, STATE, "days", 100);
    due(x, 0, "days", 98);
    due(x, STATE, "days", 2);
    due(x, STATE, "days", 100);
    due(x, 9998, "count", 1);
    due(x, 0, "days", 1);

    sentence("promise 14: BEYOND ahead of STATE");
    dueEach(x, BEYOND, "days", 0, each(-1, 0, 101, LEAST, MOST), 1);
    due(x, 5, "told", 1);
    due(x, 3, "told", 3);
    due(x, 9999, "count", 1);
  }

  private static void loose() {
    sentence("promise 15: n (1 to 40) DAYS by draws: likewise");
    CarpetLands x = new CarpetLands();
    due(x, 1, "loose", 1);
    due(x, 1, "count", 1);
    due("loose(40) is count(2)", x.loose(40), x.count(2));
    due(x, 41, "count", 1);

    sentence("promise 15: BEYOND. STATE: DAY would be above 9999");
    x = new CarpetLands();
    dueEach(x, BEYOND, "loose", 0, each(-1, 0, 41, 100, LEAST, MOST), 1);
    due(x, 0, "count", 1);
    due(x, 1, "count", 8);
    toDay(x, 9959);
    due("loose(40) is count(2)", x.loose(40), x.count(2));
    due(x, 9999, "count", 1);
    x = new CarpetLands();
    toDay(x, 9960);
    due(x, STATE, "loose", 40);
    due(x, 1, "count", 8);
    due(x, 0, "count", 2);
    due("loose(39) is count(2)", x.loose(39), x.count(2));
    int z = x.count(8);
    for (int n : new int[] {1, 2, 40}) due(x, STATE, "loose", n);
    due(x, z, "count", 8);

    sentence("promise 15: BEYOND ahead of STATE");
    dueEach(x, BEYOND, "loose", 0, each(-1, 0, 41, LEAST, MOST), 1);
    due(x, 5, "told", 1);
    due(x, 4, "told", 3);
    due(x, z, "count", 8);
  }

  private static void lands() {
    sentence("promise 16: How many LANDS there are: those of a COLOUR; -1: all but HOLES. BEYOND");
    CarpetLands x = carpet("070707", "707070", "070707", "707070", "070707", "707070");
    due(x, 18, "lands", 0);
    due(x, 18, "lands", 7);
    due(x, 18, "lands", -1);
    due(x, 0, "lands", 1);
    due(holes(), 1, "lands", 0);
    due(holes(), 0, "lands", -1);
    due(holes(), 0, "lands", 7);
    due(new CarpetLands(), 0, "lands", 0);
    due(new CarpetLands(), 1, "lands", -1);
    CarpetLands chess = carpet("121212", "212121", "121212", "212121", "121212", "212121");
    due(chess, 36, "lands", -1);
    dueEach(x, BEYOND, "lands", 0, each(-2, 8, LEAST, MOST), 0);
    due(x, 4, "told", 1);
  }

  private static void greatest() {
    sentence("promise 17: The greatest LAND that is no HOLE: what 0 how great, 1 its least KNOT; of several that with the least KNOT");
    CarpetLands x = carpet("220000", "000000", "000000", "000000", "000000", "000011");
    due(x, 2, "greatest", 0);
    due(x, 0, "greatest", 1);
    x.knot(33, 0, 1);
    due(x, 3, "greatest", 0);
    due(x, 33, "greatest", 1);
    due(new CarpetLands(), 36, "greatest", 0);
    due(new CarpetLands(), 0, "greatest", 1);
    x = holes();
    x.knot(35, 0, 7);
    due(x, 1, "greatest", 0);
    due(x, 35, "greatest", 1);
    x.knot(33, 0, 1);
    due(x, 33, "greatest", 1);
    x.knot(0, 0, 7);
    due(x, 1, "greatest", 0);
    due(x, 0, "greatest", 1);

    sentence("promise 17: BEYOND. NONE: there is none");
    dueEach(x, BEYOND, "greatest", 0, each(-1, 2, LEAST, MOST), 0);
    x = holes();
    due(x, NONE, "greatest", 0);
    due(x, NONE, "greatest", 1);

    sentence("promise 17: BEYOND ahead of NONE");
    dueEach(x, BEYOND, "greatest", 0, each(-1, 2, LEAST, MOST), 0);
    due(x, 4, "told", 1);
    due(x, 2, "told", 2);
  }

  private static void nextTo() {
    sentence("promise 18: NEXT TO the LAND of a KNOT. BEYOND");
    CarpetLands x = carpet("200000", "000000", "000000", "000000", "000000", "000007");
    due(x, 1, "nextTo", 0);
    due(x, 4 | 128, "nextTo", 1);
    due(x, 1, "nextTo", 35);
    dueEach(x, BEYOND, "nextTo", 0, each(-1, 36, LEAST, MOST), 0);
    due(x, 4, "told", 1);
  }

  private static void frontier() {
    sentence("promise 19: FRONTIER of two COLOURS (not one and the same). BEYOND");
    CarpetLands x = carpet("700000", "000000", "000000", "000000", "000000", "000007");
    due(x, 4, "frontier", 0, 7);
    due(x, 4, "frontier", 7, 0);
    due(x, 0, "frontier", 6, 7);
    for (int k = 0; k <= 7; k++) due(x, BEYOND, "frontier", k, k);
    dueEach(x, BEYOND, "frontier", 0, each(-1, 8, LEAST, MOST), 0, 7);
    dueEach(x, BEYOND, "frontier", 1, each(-1, 8, LEAST, MOST), 0, 0);
    due(x, BEYOND, "frontier", 8, 8);
    due(x, BEYOND, "frontier", -1, -1);
    due(x, 18, "told", 1);
  }

  private static void slips() {
    sentence("promise 20: SLIPS");
    CarpetLands x = new CarpetLands();
    due(x, 31, "slips");
    x.weave();
    due(x, 0, "slips");
    x.knot(0, 0, 2);
    x.knot(35, 0, 5);
    due(x, 2, "slips");
    x.knot(0, 0, 0);
    due(x, 1, "slips");
  }

  private static void mends() {
    sentence("promise 21: MENDS: how many KNOTS of a COLOUR (1 to 7). BEYOND");
    CarpetLands x = holes();
    // r+c is 0 to 10, of 1, 2, .. 6, 5, .. 1 knots; by 7 the last four are the first four again.
    int[] due = {1 + 4, 2 + 3, 3 + 2, 4 + 1, 5, 6, 5};
    for (int k = 1; k <= 7; k++) due(x, due[k - 1], "mends", k);
    x.mend();
    for (int k = 1; k <= 7; k++) due(x, 0, "mends", k);
    dueEach(x, BEYOND, "mends", 0, each(-1, 0, 8, LEAST, MOST), 1);
    due(x, 5, "told", 1);
  }

  private static void again() {
    sentence("promise 22: AGAIN: by columns (what 0), rows (1). BEYOND");
    CarpetLands x = carpet("123456", "123456", "123456", "123456", "123456", "123456");
    due(x, 6, "again", 0);
    due(x, 1, "again", 1);
    dueEach(x, BEYOND, "again", 0, each(-1, 2, LEAST, MOST), 0);
    due(x, 4, "told", 1);
  }

  private static void stays() {
    sentence("promise 23: STAYS");
    due(new CarpetLands(), 255, "stays");
    due(carpet("123456", "234567", "345671", "456712", "567123", "671234"), 129, "stays");
    due(carpet("123456", "112111", "111311", "141111", "111511", "111161"), 1, "stays");
  }

  private static void road() {
    sentence("promise 24: ROAD, by a set of COLOURS (bits 0 to 7). BEYOND. NONE: there is none");
    CarpetLands x = new CarpetLands();
    due(x, 10, "road", 0, 35, 255);
    due(x, 10, "road", 35, 0, 2);
    due(x, NONE, "road", 0, 35, 0);
    due(x, NONE, "road", 0, 35, 253);
    dueEach(x, BEYOND, "road", 0, each(-1, 36, LEAST, MOST), 0, 0, 255);
    dueEach(x, BEYOND, "road", 1, each(-1, 36, LEAST, MOST), 0, 0, 255);
    dueEach(x, BEYOND, "road", 2, each(-1, 256, 258, LEAST, MOST), 0, 0, 255);

    sentence("promise 24: BEYOND ahead of NONE");
    dueEach(x, BEYOND, "road", 0, each(-1, 36), 0, 1, 0);
    dueEach(x, BEYOND, "road", 1, each(-1, 36), 0, 1, 0);
    dueEach(x, BEYOND, "road", 2, each(-256, 256), 0, 1, 0);
    due(x, 19, "told", 1);
    due(x, 2, "told", 2);
  }

  private static final String ONES = "111111111111111111111111111111111111";

  private static void fits() {
    sentence("promise 25: FITS (1, else 0) by a SHEET, rows, columns. BEYOND");
    CarpetLands x = new CarpetLands();
    for (int s = 0; s <= 3; s += 3) {
      sheet(x, s, 8, ONES.substring(1) + "2");
      due(x, 0, "fits", s, 0, 0);
      due(x, 1, "fits", s, 1, 0);
      due(x, 1, "fits", s, 5, 5);
      due(x, 1, "fits", s, 5, -5);
      due(x, 1, "fits", s, -5, 5);
      due(x, 0, "fits", s, -5, -5);
    }
    dueEach(x, BEYOND, "fits", 0, each(-1, 4, LEAST, MOST), 0, 0, 0);
    dueEach(x, BEYOND, "fits", 1, each(-6, 6, LEAST, MOST), 0, 0, 0);
    dueEach(x, BEYOND, "fits", 2, each(-6, 6, LEAST, MOST), 0, 0, 0);

    sentence("promise 25: NONE: the SHEET is missing, hasn't 36 numbers, one isn't 0 to 7");
    due(x, NONE, "fits", 1, 0, 0);
    sheet(x, 1, 16, ONES + "1");
    due(x, NONE, "fits", 1, 0, 0);
    sheet(x, 1, 16, ONES.substring(1));
    due(x, NONE, "fits", 1, 0, 0);
    sheet(x, 1, 32, ONES);
    x.write(1, 35, 8);
    due(x, NONE, "fits", 1, 0, 0);
    // Also where the one that isn't lies upon nothing.
    due(x, NONE, "fits", 1, 5, 5);
    x.write(1, 35, -1);
    due(x, NONE, "fits", 1, 5, 5);
    x.write(1, 35, 7);
    due(x, 1, "fits", 1, 5, 5);
    x.sheet(1, 0, 0);
    due(x, NONE, "fits", 1, 0, 0);

    sentence("promise 25: BEYOND ahead of NONE");
    dueEach(x, BEYOND, "fits", 1, each(-6, 6), 1, 0, 0);
    dueEach(x, BEYOND, "fits", 2, each(-6, 6), 1, 0, 0);
    due(x, 16, "told", 1);
    due(x, 7, "told", 2);
  }

  private static void layings() {
    sentence("promise 26: LAYINGS, by a SHEET: what 0 how many FIT, 1 the one. BEYOND");
    CarpetLands x = new CarpetLands();
    for (int s = 0; s <= 3; s += 3) {
      sheet(x, s, 16, ONES);
      due(x, 121, "layings", s, 0);
      due(x, 505, "layings", s, 1);
    }
    dueEach(x, BEYOND, "layings", 0, each(-1, 4, LEAST, MOST), 0, 0);
    dueEach(x, BEYOND, "layings", 1, each(-1, 2, LEAST, MOST), 0, 0);

    sentence("promise 26: NONE: likewise; (what 1) none does");
    for (int what = 0; what <= 1; what++) due(x, NONE, "layings", 1, what);
    sheet(x, 1, 8, ONES + "1");
    for (int what = 0; what <= 1; what++) due(x, NONE, "layings", 1, what);
    sheet(x, 1, 8, ONES.substring(1));
    for (int what = 0; what <= 1; what++) due(x, NONE, "layings", 1, what);
    sheet(x, 1, 8, ONES);
    x.write(1, 0, 8);
    for (int what = 0; what <= 1; what++) due(x, NONE, "layings", 1, what);
    sheet(x, 1, 8, ONES.replace('1', '3'));
    due(x, 0, "layings", 1, 0);
    due(x, NONE, "layings", 1, 1);
    x.write(1, 35, 0);
    due(x, 1, "layings", 1, 0);
    due(x, 0, "layings", 1, 1);

    // By the COLOURS there are: a carpet of 1, 2, .. 6 in rows upon itself, by rows alone; then by one more, too.
    CarpetLands y = carpet("111111", "222222", "333333", "444444", "555555", "666666");
    y.image();
    sheet(y, 1, 8, "111111222222333333444444555555666666");
    due(y, 11, "layings", 1, 0);
    due(y, 505, "layings", 1, 1);
    lay(y, "222222", "333333", "444444", "555555", "666666", "777777");
    due(y, 11, "layings", 1, 0);
    due(y, 405, "layings", 1, 1);
    for (int k = 0; k < KNOTS; k++) y.knot(k, 0, 0);
    due(y, 121, "layings", 1, 0);
    y.restore();
    due(y, 505, "layings", 1, 1);

    sentence("promise 26: BEYOND ahead of NONE");
    dueEach(x, BEYOND, "layings", 1, each(-1, 2, LEAST, MOST), 2, 0);
    due(x, 12, "told", 1);
    due(x, 9, "told", 2);
  }

  private static void cut() {
    sentence("promise 27: CUT: what 0 behind which column, 1 by how much they differ. BEYOND");
    CarpetLands x = holes();
    due(x, 0, "cut", 0);
    due(x, 0, "cut", 1);
    x.knot(35, 0, 7);
    x.knot(34, 0, 6);
    due(x, 4, "cut", 0);
    due(x, 1, "cut", 1);
    learn(x, 1, "(c=0)*99");
    due(x, 0, "cut", 0);
    due(x, 594, "cut", 1);
    dueEach(x, BEYOND, "cut", 0, each(-1, 2, LEAST, MOST), 0);
    due(x, 4, "told", 1);
  }

  private static void dyed() {
    sentence("promise 28: DYED, for a KNOT, n: what -1 how great, 0 .. n - 1 the COLOUR of that flood. BEYOND");
    CarpetLands x = carpet("111111", "222222", "333333", "444444", "555555", "666666");
    for (int n = 1; n <= 3; n++) {
      due(x, 6 + 6 * n, "dyed", 0, n, -1);
      due(x, 6 + 6 * n, "dyed", 35, n, -1);
      for (int i = 0; i < n; i++) {
        due(x, 2 + i, "dyed", 0, n, i);
        due(x, 5 - i, "dyed", 35, n, i);
      }
      dueEach(x, BEYOND, "dyed", 2, each(-2, n, LEAST, MOST), 0, n, 0);
      dueEach(x, BEYOND, "dyed", 0, each(-1, 36, LEAST, MOST), 0, n, -1);
    }
    dueEach(x, BEYOND, "dyed", 1, each(-1, 0, 4, LEAST, MOST), 0, 1, -1);
    dueEach(x, BEYOND, "dyed", 1, each(-1, 0, 4, LEAST, MOST), 0, 1, 0);
    due(x, 34, "told", 1);
  }

  private static void then() {
    sentence("promise 29: BEHIND n DAYS (0 to 100): what 0 AT of a WALKER, 1 its WAY. BEYOND");
    CarpetLands x = withWalkers(0, 0, 0, 0, 0);
    x.put(4, 3, 0);
    due(x, 3, "then", 0, 4, 0);
    due(x, 0, "then", 0, 4, 1);
    due(x, 4, "then", 1, 4, 0);
    due(x, 1, "then", 1, 4, 1);
    // Two steps to the corner, then round the edge of 20 knots: 98 steps are four rounds and 18 more.
    due(x, 11, "then", 3, 4, 0);
    due(x, 3, "then", 100, 4, 0);
    due(x, 1, "then", 100, 4, 1);
    due(x, 2, "then", 99, 4, 0);
    due(x, 14, "then", 0, 0, 0);
    dueEach(x, BEYOND, "then", 0, each(-1, 101, LEAST, MOST), 0, 0, 0);
    dueEach(x, BEYOND, "then", 1, each(-1, 5, LEAST, MOST), 0, 0, 0);
    dueEach(x, BEYOND, "then", 2, each(-1, 2, LEAST, MOST), 0, 0, 0);
    due(x, 12, "told", 1);
    due(x, 0, "count", 1);
    due(x, 0, "count", 3);
    // DAYS, not days by draws: the first draws make a hole of knot 14, from which a cat would not come away.
    x = withWalkers(10);
    due(x, 15, "then", 1, 0, 0);
    due(x, 1, "count", 8);
    x.loose(1);
    due(x, 14, "ofWalker", 0, 2);
    // It is only thought, so no day is too late.
    x = withWalkers(0, 0, 0, 0, 0);
    x.put(4, 3, 0);
    toDay(x, 9999);
    int at = x.ofWalker(4, 2);
    due(x, at, "then", 0, 4, 0);
    due("then(20, 4, 0) of a day 9999", x.then(20, 4, 0), at);
    due("then(100, 4, 0) of a day 9999", x.then(100, 4, 0), at);
    due(x, 0, "told", 3);
  }

  private static void seed() {
    sentence("promise 30: z becomes v: what it was (any number)");
    CarpetLands x = new CarpetLands();
    int[] some = {LEAST, MOST, 0, -1, -1000000000, BEYOND, NONE, STATE, FULL, KIND, 1};
    int was = 1;
    for (int v : some) {
      due(x, was, "seed", v);
      due(x, v, "count", 8);
      was = v;
    }
    for (int k = 1; k <= 5; k++) due(x, 0, "told", k);
  }

  private static void voice() {
    sentence("promise 31: A VOICE of a WALKER: any number. BEYOND");
    CarpetLands x = withWalkers(0, 0, 0, 0, 9);
    due(x, MOST, "voice", 0, 0, MOST);
    due(x, LEAST, "voice", 0, 0, LEAST);
    int[] errors = {BEYOND, NONE, STATE, FULL, KIND};
    for (int e : errors) due(x, e, "voice", 0, 2, e);
    for (int k = 1; k <= 5; k++) due(x, 0, "told", k);
    due(x, 4, "voice", 4, 0, 0);
    due(x, 8, "voice", 4, 1, 0);
    due(x, -9, "voice", 4, 2, 0);
    due(x, 8 ^ -9, "voice", 4, 3, 0);
    dueEach(x, BEYOND, "voice", 0, each(-1, 5, LEAST, MOST), 0, 0, 1);
    dueEach(x, BEYOND, "voice", 1, each(-1, 4, LEAST, MOST), 0, 0, 1);
    due(x, 8, "told", 1);
    due(x, 4, "count", 7);
    due(x, 13, "trace", 0);
  }

  private static void trace() {
    sentence("promise 32: THE TRACE's i-th. NONE: there is none such");
    CarpetLands x = withWalkers(0);
    dueEach(x, NONE, "trace", 0, each(-1, 0, 1, 39, 40, LEAST, MOST), 0);
    x.voice(0, 3, 0);
    int[] bodies = {13, 11, 10, 12};
    for (int i = 0; i < 4; i++) due(x, bodies[i], "trace", i);
    dueEach(x, NONE, "trace", 0, each(-1, 4, 5, 39, 40, LEAST, MOST), 0);
    due(x, 14, "told", 2);
    due(x, 0, "told", 1);
  }

  private static void sheetOfNumbers() {
    sentence("promise 33: A SHEET has n numbers, all 0, of so many bits (8, 16, 32; 0: it is missing, n doesn't matter): 1");
    CarpetLands x = new CarpetLands();
    for (int s = 0; s <= 3; s += 3) {
      for (int bits = 8; bits <= 32; bits *= 2) {
        due(x, 1, "sheet", s, bits, 40);
        x.write(s, 0, 1);
        x.write(s, 39, 1);
        due(x, 1, "sheet", s, bits, 40);
        due(x, 36, "colours", s);
        due(x, 36, "count", 2);
        due(x, 1, "move", s, 39, s, 0, 1);
        due(x, 36, "judge", s);
        due(x, 1, "sheet", s, bits, 1);
        due(x, 1, "colours", s);
        due(x, 1, "sheet", s, bits, 0);
        due(x, 0, "colours", s);
      }
      for (long n : each(0, 1, -1, 40, 41, LEAST, MOST)) {
        due(x, 1, "sheet", s, 8, 1);
        due(x, 1, "sheet", s, 0, n);
        due(x, NONE, "judge", s);
        due(x, 1, "sheet", s, 0, n);
      }
    }

    sentence("promise 33: BEYOND. STATE: n is below 0 (ahead of BEYOND of n)");
    x = new CarpetLands();
    x.sheet(0, 16, 2);
    x.write(0, 1, 1);
    dueEach(x, BEYOND, "sheet", 0, each(-1, 4, LEAST, MOST), 0, 8, 1);
    dueEach(x, BEYOND, "sheet", 1, each(-8, -1, 1, 7, 9, 24, 31, 33, 64, LEAST, MOST), 0, 8, 1);
    dueEach(x, BEYOND, "sheet", 2, each(41, 42, MOST), 0, 8, 1);
    dueEach(x, STATE, "sheet", 2, each(-1, -2, -41, LEAST), 0, 8, 1);
    // BEYOND of the sheet and of the bits is ahead of STATE.
    dueEach(x, BEYOND, "sheet", 0, each(-1, 4), 0, 8, -1);
    dueEach(x, BEYOND, "sheet", 0, each(-1, 4), 0, 0, -1);
    dueEach(x, BEYOND, "sheet", 1, each(-1, 9), 0, 8, -1);
    due(x, 24, "told", 1);
    due(x, 4, "told", 3);
    // It is as it was: two numbers of 16 bits, the second a 1.
    due(x, 0, "judge", 0);
    x.knot(0, 0, 0);
    due(x, 2, "judge", 0);
    due(x, BEYOND, "write", 0, 2, 0);
    x.sheet(1, 16, 1);
    due(x, 0, "move", 0, 0, 1, 0, 0);
  }

  private static void write() {
    sentence("promise 34: Number i of a SHEET becomes v (its lowest bits): 1");
    for (int bits = 8; bits <= 32; bits *= 2) {
      for (int s = 0; s <= 3; s += 3) {
        CarpetLands x = new CarpetLands();
        x.sheet(s, bits, 40);
        due(x, 1, "write", s, 0, 1);
        due(x, 1, "write", s, 39, 1);
        due(x, 1, "judge", s);
        due(x, 1, "write", s, 0, MOST);
        due(x, 0, "colours", s);
        due(x, 1, "write", s, 0, -1);
        due(x, 0, "colours", s);
        due(x, 1, "write", s, 0, 1 << bits - 1);
        due(x, 0, "colours", s);
        due(x, 1, "write", s, 0, LEAST + 1);
        due(x, bits == 32 ? 0 : 1, "judge", s);
        due(x, 1, "write", s, 0, 0x00020100 + 1);
        due(x, bits == 8 ? 1 : 0, "judge", s);
        due(x, 1, "write", s, 0, 0x00020000 + 1);
        due(x, bits == 32 ? 0 : 1, "judge", s);
        for (int k = 1; k <= 5; k++) due(x, 0, "told", k);
      }
    }

    sentence("promise 34: BEYOND: no such SHEET. NONE: it is missing. BEYOND: no such number");
    CarpetLands x = new CarpetLands();
    x.sheet(0, 8, 1);
    x.sheet(3, 8, 0);
    dueEach(x, BEYOND, "write", 0, each(-1, 4, LEAST, MOST), 0, 0, 1);
    dueEach(x, BEYOND, "write", 1, each(-1, 1, 40, LEAST, MOST), 0, 0, 1);
    dueEach(x, BEYOND, "write", 1, each(-1, 0, 1, 40, LEAST, MOST), 3, 0, 1);
    due(x, 15, "told", 1);
    // NONE is ahead of the number, the sheet ahead of both.
    dueEach(x, NONE, "write", 1, each(-1, 0, 40, LEAST, MOST), 1, 0, 1);
    dueEach(x, BEYOND, "write", 0, each(-1, 4), 0, 40, 1);
    due(x, 17, "told", 1);
    due(x, 5, "told", 2);
    due(x, 1, "colours", 0);
    due(x, 0, "ofKnot", 0, 0);
  }

  /** Checks that a sheet's numbers are these: each is brought to number 0 and becomes the colour of knot 0. */
  private static void dueNumbers(CarpetLands x, int s, String numbers) {
    StringBuilder b = new StringBuilder();
    for (int i = 0; i < numbers.length(); i++) {
      x.sheet(3, 8, 1);
      x.move(s, i, 3, 0, 1);
      x.colours(3);
      b.append(x.ofKnot(0, 0));
    }
    due("whether the numbers of sheet " + s + ", " + b + ", are " + numbers, b.toString().equals(numbers) ? 1 : 0, 1);
    due(x, 0, "move", s, numbers.length(), s, 0, 0);
    due(x, BEYOND, "move", s, numbers.length() + 1, s, 0, 0);
  }

  private static void move() {
    sentence("promise 35: n numbers of a SHEET, from number i on, come to another one, from its number j on: n");
    CarpetLands x = new CarpetLands();
    sheet(x, 0, 8, "1234567654321234567654321234567654321234");
    sheet(x, 1, 8, "0000000000000000000000000000000000000000");
    due(x, 40, "move", 0, 0, 1, 0, 40);
    dueNumbers(x, 1, "1234567654321234567654321234567654321234");
    sheet(x, 1, 8, "00000");
    due(x, 1, "move", 0, 39, 1, 4, 1);
    dueNumbers(x, 1, "00004");
    due(x, 5, "move", 0, 0, 1, 0, 5);
    dueNumbers(x, 1, "12345");
    due(x, 5, "move", 1, 0, 0, 35, 5);
    due(x, 5, "move", 0, 35, 1, 0, 5);
    dueNumbers(x, 1, "12345");
    due(x, 1, "move", 0, 0, 1, 4, 1);
    dueNumbers(x, 1, "12341");

    sentence("promise 35: n numbers may be none");
    due(x, 0, "move", 0, 0, 1, 0, 0);
    due(x, 0, "move", 0, 40, 1, 5, 0);
    due(x, 0, "move", 1, 5, 1, 5, 0);
    x.sheet(2, 8, 0);
    due(x, 0, "move", 2, 0, 2, 0, 0);
    due(x, 0, "move", 2, 0, 0, 40, 0);
    dueNumbers(x, 1, "12341");

    sentence("promise 35: (or the same), as they all were");
    sheet(x, 0, 8, "1234567");
    due(x, 6, "move", 0, 0, 0, 1, 6);
    dueNumbers(x, 0, "1123456");
    due(x, 6, "move", 0, 1, 0, 0, 6);
    dueNumbers(x, 0, "1234566");
    due(x, 7, "move", 0, 0, 0, 0, 7);
    dueNumbers(x, 0, "1234566");
    due(x, 3, "move", 0, 0, 0, 4, 3);
    dueNumbers(x, 0, "1234123");
    for (int k = 2; k <= 5; k++) due(x, 0, "told", k);
  }

  private static void moveInOrder() {
    sentence("promise 35: BEYOND: no such SHEET. NONE: one is missing. KIND: they are of unlike bits. BEYOND: n, i, or j is below 0, or they don't stand there");
    CarpetLands x = new CarpetLands();
    sheet(x, 0, 8, "12345");
    sheet(x, 1, 8, "765");
    sheet(x, 2, 32, "12345");
    dueEach(x, BEYOND, "move", 0, each(-1, 4, LEAST, MOST), 0, 0, 1, 0, 1);
    dueEach(x, BEYOND, "move", 2, each(-1, 4, LEAST, MOST), 0, 0, 1, 0, 1);
    dueEach(x, BEYOND, "move", 1, each(-1, 5, 6, LEAST, MOST), 0, 0, 1, 0, 1);
    dueEach(x, BEYOND, "move", 3, each(-1, 3, 4, LEAST, MOST), 0, 0, 1, 0, 1);
    dueEach(x, BEYOND, "move", 4, each(-1, 4, 5, 6, LEAST, MOST), 0, 0, 1, 0, 1);
    dueEach(x, BEYOND, "move", 4, each(-1, 4, 5, LEAST, MOST), 1, 0, 0, 0, 1);
    dueEach(x, BEYOND, "move", 4, each(-1, 1, MOST), 0, 5, 1, 0, 0);
    dueEach(x, BEYOND, "move", 4, each(-1, 1, MOST), 0, 0, 1, 3, 0);
    dueEach(x, BEYOND, "move", 1, each(-1, 6, LEAST, MOST), 0, 0, 1, 0, 0);
    dueEach(x, BEYOND, "move", 3, each(-1, 4, LEAST, MOST), 0, 0, 1, 0, 0);
    // i and n, or j and n, may go round to what is small again.
    due(x, BEYOND, "move", 0, MOST, 1, 0, MOST);
    due(x, BEYOND, "move", 0, 0, 1, MOST, MOST);
    due(x, BEYOND, "move", 0, LEAST, 1, 0, LEAST);
    due(x, BEYOND, "move", 0, 2, 1, 0, MOST);
    due(x, BEYOND, "move", 0, 2, 1, 2, MOST - 1);
    due(x, BEYOND, "move", 0, -1, 1, 0, 2);
    due(x, BEYOND, "move", 0, 0, 1, -1, 2);
    dueNumbers(x, 0, "12345");
    x.sheet(3, 0, 0);
    dueEach(x, NONE, "move", 0, each(3), 0, 0, 1, 0, 1);
    dueEach(x, NONE, "move", 2, each(3), 0, 0, 1, 0, 1);
    due(x, NONE, "move", 3, 0, 3, 0, 0);
    due(x, KIND, "move", 0, 0, 2, 0, 1);
    due(x, KIND, "move", 2, 0, 0, 0, 0);
    x.sheet(3, 16, 1);
    due(x, KIND, "move", 3, 0, 0, 0, 1);
    due(x, KIND, "move", 3, 0, 2, 0, 1);
    x.sheet(3, 0, 0);

    sentence("promise 35: no such SHEET is ahead of a missing one, that of unlike bits, that of numbers that don't stand there");
    due(x, BEYOND, "move", 4, 0, 3, 0, 1);
    due(x, BEYOND, "move", 3, 0, 4, 0, 1);
    due(x, BEYOND, "move", -1, -1, 3, -1, -1);
    due(x, NONE, "move", 3, -1, 0, 0, 1);
    due(x, NONE, "move", 2, 0, 3, 99, 1);
    due(x, NONE, "move", 3, 0, 2, 0, -1);
    due(x, KIND, "move", 0, -1, 2, 0, 1);
    due(x, KIND, "move", 0, 0, 2, 5, 1);
    due(x, KIND, "move", 2, 0, 0, 0, -1);
    due(x, KIND, "move", 2, LEAST, 0, MOST, MOST);
    due(x, 6, "told", 2);
    due(x, 8, "told", 5);
    due(x, 5, "move", 2, 0, 2, 0, 5);
    dueNumbers(x, 0, "12345");
    dueNumbers(x, 1, "765");
  }

  private static void colours() {
    sentence("promise 36: Numbers of a SHEET become COLOURS of KNOTS 0, 1, ..: how many, up to the first that is not 0 to 7 (no ERROR then), or for which there is no KNOT");
    for (int bits = 8; bits <= 32; bits *= 2) {
      CarpetLands x = new CarpetLands();
      x.sheet(0, bits, 0);
      due(x, 0, "colours", 0);
      x.sheet(0, bits, 1);
      due(x, 1, "colours", 0);
      due(x, 1, "count", 2);
      sheet(x, 3, bits, "0123456776543210123456776543210123456");
      due(x, 36, "colours", 3);
      for (int k = 0; k < KNOTS; k++) due(x, "012345677654321012345677654321012345".charAt(k) - '0', "ofKnot", k, 0);
      x.write(3, 36, 8);
      due(x, 36, "colours", 3);
      x.write(3, 35, 8);
      due(x, 35, "colours", 3);
      x.write(3, 1, -1);
      x.write(3, 0, 7);
      due(x, 1, "colours", 3);
      due(x, 7, "ofKnot", 0, 0);
      due(x, 1, "ofKnot", 1, 0);
      x.write(3, 0, 8);
      due(x, 0, "colours", 3);
      due(x, 7, "ofKnot", 0, 0);
      for (int k = 1; k <= 5; k++) due(x, 0, "told", k);
    }
    // Wear stays.
    CarpetLands x = new CarpetLands();
    x.knot(0, 1, 99);
    x.sheet(0, 8, 40);
    due(x, 36, "colours", 0);
    due(x, 99, "ofKnot", 0, 1);

    sentence("promise 36: BEYOND: no such SHEET. NONE: it is missing");
    dueEach(x, BEYOND, "colours", 0, each(-1, 4, LEAST, MOST), 0);
    dueEach(x, NONE, "colours", 0, each(1, 2, 3), 0);
    due(x, 4, "told", 1);
    due(x, 3, "told", 2);
  }

  private static void judge() {
    sentence("promise 37: Numbers of a SHEET are COLOURS of KNOTS 0, 1, ..: the first that isn't so (one that lacks, or is too many, too); -1: all are");
    CarpetLands x = new CarpetLands();
    for (int bits = 8; bits <= 32; bits *= 2) {
      for (int n = 0; n <= 40; n++) {
        x = new CarpetLands();
        sheet(x, 3, bits, (ONES + "1111").substring(0, n));
        due("judge(3) of " + n + " numbers", x.judge(3), n == 36 ? -1 : Math.min(n, 36));
      }
      sheet(x, 0, bits, ONES);
      for (int i = 35; i >= 0; i -= 5) {
        x.write(0, i, i % 2 == 0 ? 0 : 8);
        due(x, i, "judge", 0);
      }
    }
    // What lacks is no hole.
    x = holes();
    x.sheet(0, 8, 35);
    due(x, 35, "judge", 0);
    x.sheet(0, 8, 0);
    due(x, 0, "judge", 0);
    due(x, 0, "told", 1);
    due(x, 0, "told", 2);

    sentence("promise 37: BEYOND: no such SHEET. NONE: it is missing");
    dueEach(x, BEYOND, "judge", 0, each(-1, 4, LEAST, MOST), 0);
    dueEach(x, NONE, "judge", 0, each(1, 2, 3), 0);
    due(x, 4, "told", 1);
    due(x, 3, "told", 2);
  }

  private static void image() {
    sentence("promise 38: All .. is kept as an IMAGE, in place of one ahead: how often that was done");
    CarpetLands x = new CarpetLands();
    for (int i = 1; i <= 200; i++) due(x, i, "image");
    x.restore();
    due(x, 201, "image");
    x.days(1);
    due(x, 202, "image");
    x.days(2);
    due(x, 1, "restore");

    sentence("promise 38: (but SHEETS, THE TRACE, what told() tells, and how often this was done)");
    x = withWalkers(35);
    x.sheet(0, 8, 1);
    x.sheet(1, 16, 2);
    due(x, 1, "image");
    x.sheet(0, 0, 0);
    x.write(1, 1, 3);
    x.sheet(2, 8, 1);
    x.voice(0, 2, 1);
    x.trace(-1);
    due(x, 0, "restore");
    due(x, NONE, "judge", 0);
    due(x, 0, "judge", 2);
    due(x, 1, "move", 1, 1, 1, 0, 1);
    due(x, 2, "colours", 1);
    due(x, 3, "ofKnot", 1, 0);
    due(x, 40, "trace", 0);
    due(x, 2, "count", 7);
    due(x, 2, "told", 2);
    due(x, 2, "image");
    // Each sheet stays as it is, whether the image was made ahead of it or behind it.
    x = new CarpetLands();
    for (int s = 0; s <= 3; s++) {
      sheet(x, s, 8 << s % 3, ONES);
      x.image();
      x.write(s, 0, 7);
      x.restore();
    }
    for (int s = 0; s <= 3; s++) {
      due(x, 0, "judge", s);
      due(x, 36, "colours", s);
      due(x, 7, "ofKnot", 0, 0);
      due(x, -1, "judge", s);
      x.restore();
    }
  }

  private static void restore() {
    sentence("promise 39: All is as the IMAGE has it, which stays: DAY");
    CarpetLands x = withWalkers(0, 19, 25, 31, 69);
    for (int i = 0; i < 20; i++) x.tell(i);
    feed(x, "1+1+1+1+1+1+1+1+1+1+1+1+1+1+1+1+1+1+1+1+1+1+1+1+1c");
    toDay(x, 9999);
    x.weave();
    for (int k = 0; k < KNOTS; k++) x.knot(k, 1, 99);
    x.seed(LEAST);
    due(x, 1, "image");
    for (int round = 0; round < 2; round++) {
      for (int k = 0; k < KNOTS; k++) x.knot(k, round, 0);
      x.weave();
      x.check();
      x.text(0);
      x.seed(MOST);
      for (int w = 0; w < 5; w++) x.become(w, 0);
      for (int w = 0; w < 5; w++) x.put(w, 0, 3);
      due(x, 9999, "restore");
      int[] counts = {5, 9999, 0, 36 * 99, 254, 50, 20, 0, LEAST};
      for (int what = 0; what <= 8; what++) due(x, counts[what], "count", what);
      int[] kinds = {0, 1, 2, 3, 6};
      for (int w = 0; w < 5; w++) due(x, kinds[w], "ofWalker", w, 0);
      due(x, FULL, "feed", 0, 1);
      due(x, FULL, "tell", 0);
      due(x, FULL, "walker", 0, 0);
      due(x, STATE, "days", 1);
    }
    // An image of nothing brings back a new one's state.
    x = new CarpetLands();
    x.image();
    x.walker(0, 0);
    x.days(100);
    x.tell(7);
    feed(x, "c");
    x.loose(40);
    learn(x, 0, "+5");
    learn(x, 1, "5");
    due(x, 0, "restore");
    int[] counts = {0, 0, 0, 0, 2, 0, 0, 0, 1};
    for (int what = 0; what <= 8; what++) due(x, counts[what], "count", what);
    due(x, 31, "slips");
    due(x, 1, "ofKnot", 0, 3);
    due(x, BEYOND, "ofWalker", 0, 0);

    sentence("promise 39: NONE: there is none");
    x = new CarpetLands();
    for (int i = 1; i <= 3; i++) due(x, NONE, "restore");
    due(x, 3, "told", 2);
    due(x, 1, "image");
    due(x, 0, "restore");
    due(x, 3, "told", 2);
  }

  private static void tell() {
    sentence("promise 40: One more number waits: how many. FULL: 20 wait");
    CarpetLands x = new CarpetLands();
    int[] some = {LEAST, MOST, 0, -1, BEYOND, FULL};
    for (int i = 1; i <= 20; i++) due(x, i, "tell", some[i % 6]);
    for (int v : some) due(x, FULL, "tell", v);
    due(x, 20, "count", 6);
    due(x, 6, "told", 4);
    due(x, 0, "told", 1);
    x.check();
    due(x, 1, "tell", 0);
  }

  private static void check() {
    sentence("promise 41: The numbers that wait (none do then) are how many HOLES there are behind 1, 2, .. DAYS: 0");
    CarpetLands x = new CarpetLands();
    due(x, 0, "check");
    x.tell(0);
    due(x, 0, "check");
    due(x, 0, "count", 6);
    for (int i = 0; i < 20; i++) x.tell(0);
    due(x, 0, "check");
    due(x, 0, "count", 6);
    x = holes();
    for (int i = 0; i < 20; i++) x.tell(36);
    due(x, 0, "check");
    // A swarm finds a knot that is no hole yet on each of these days.
    x = withWalkers(60);
    for (int i = 1; i <= 20; i++) x.tell(i);
    due(x, 0, "check");
    due(x, 0, "count", 2);
    due(x, 0, "count", 1);

    sentence("promise 41: else 1 and the place (from 0) of the first that isn't so");
    for (int place = 0; place < 20; place++) {
      x = holes();
      for (int i = 0; i < 20; i++) x.tell(i == place || i == 19 ? place % 2 == 0 ? 35 : 37 : 36);
      due(x, place + 1, "check");
      due(x, 0, "count", 6);
      due(x, 0, "check");
    }
    for (int v : new int[] {LEAST, MOST, -1, 1, BEYOND}) {
      x = new CarpetLands();
      x.tell(0);
      x.tell(v);
      due(x, 2, "check");
    }
    // It is only thought, so no day is too late.
    x = new CarpetLands();
    toDay(x, 9999);
    for (int i = 0; i < 20; i++) x.tell(0);
    due(x, 0, "check");
    due(x, 9999, "count", 1);
    due(x, 0, "told", 3);
  }

  private static void count() {
    sentence("promise 42: 0 WALKERS, 1 DAY, 2 HOLES, 3 WEAR of all together, 4 COLOURS (of 1 to 7), 5 bytes of THE TAPE, 6 numbers that wait, 7 BODIES in THE TRACE, 8 z (any number). BEYOND");
    CarpetLands x = holes();
    due(x, 0, "count", 4);
    due(x, 36, "count", 2);
    for (int knot = 0; knot < KNOTS; knot += 7) {
      for (int k = 1; k <= 7; k++) {
        x.knot(knot, 0, k);
        due(x, 1 << k, "count", 4);
      }
      x.knot(knot, 0, 0);
    }
    x.knot(35, 0, 7);
    for (int k = 1; k <= 7; k++) x.knot(k, 0, k);
    due(x, 254, "count", 4);
    due(x, 28, "count", 2);
    for (int k = 0; k < KNOTS; k++) x.knot(k, 1, 99);
    due(x, 3564, "count", 3);
    for (int i = 0; i < 5; i++) {
      due(x, i, "count", 0);
      x.walker(60, 0);
    }
    due(x, 5, "count", 0);
    x.feed(0, 8);
    due(x, 8, "count", 5);
    x.tell(0);
    due(x, 1, "count", 6);
    x.voice(0, 3, 0);
    due(x, 9, "count", 7);
    for (int v : new int[] {LEAST, MOST, BEYOND, KIND}) {
      x.seed(v);
      due(x, v, "count", 8);
    }
    due(x, 0, "told", 1);
    due(x, 0, "told", 5);
    dueEach(x, BEYOND, "count", 0, each(-1, 9, LEAST, MOST), 0);
    due(x, 4, "told", 1);
  }

  private static void told() {
    sentence("promise 43: How many acts have answered an ERROR LOW - k (k 1 .. 5); BEYOND: another k (counted, too)");
    CarpetLands x = new CarpetLands();
    for (int k = 1; k <= 5; k++) due(x, 0, "told", k);
    dueEach(x, BEYOND, "told", 0, each(-1, 0, 6, LEAST, MOST, BEYOND), 0);
    due(x, 6, "told", 1);
    for (int k = 2; k <= 5; k++) due(x, 0, "told", k);
    // What only looks like an ERROR is none, and neither is a FAULT or a place.
    x.seed(BEYOND);
    x.seed(NONE);
    x.count(8);
    x.walker(0, 0);
    x.voice(0, 0, STATE);
    x.text(0);
    x.sheet(0, 8, 1);
    x.write(0, 0, 8);
    x.colours(0);
    x.judge(0);
    x.tell(FULL);
    x.check();
    due(x, 6, "told", 1);
    for (int k = 2; k <= 5; k++) due(x, 0, "told", k);
    // Each by itself, once.
    x.knot(-1, 0, 0);
    x.trace(40);
    x.sheet(0, 8, -1);
    for (int i = 0; i < 21; i++) x.tell(0);
    x.as(0, 6);
    due(x, 7, "told", 1);
    for (int k = 2; k <= 5; k++) due(x, 1, "told", k);
    // Neither an image nor what is thought changes it.
    x.image();
    x.trace(40);
    x.restore();
    due(x, 2, "told", 2);
    for (int i = 0; i < 300; i++) x.as(0, 1);
    due(x, 301, "told", 5);
  }
}
