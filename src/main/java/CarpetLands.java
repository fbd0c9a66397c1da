/** A country that is a carpet of 6 rows and 6 columns of knots; ../shared/DOC.md says what each call promises. */
public final class CarpetLands {
  private static final int LOW = -1000000000;
  private static final int BEYOND = LOW - 1;
  private static final int NONE = LOW - 2;
  private static final int STATE = LOW - 3;
  private static final int FULL = LOW - 4;
  private static final int KIND = LOW - 5;
  private static final int ERRORS = 5;

  private static final int SIDE = 6;
  private static final int KNOTS = 36;
  private static final int COLOURS = 8;
  private static final int MOST_WEAR = 99;
  private static final int MOST_DAY = 9999;
  private static final int MOST_WALKERS = 5;
  private static final int MOST_BYTES = 50;
  private static final int MOST_WAITING = 20;
  private static final int MOST_BODIES = 40;
  private static final int SHEETS = 4;
  private static final int MOST_NUMBERS = 40;

  private static final int PATTERN = 0;
  private static final int WORTH = 1;

  private static final int WALKER = 0;
  private static final int CAT = 1;
  private static final int BOOT = 2;
  private static final int MOTH = 3;
  private static final int DYNASTY = 4;
  private static final int ARMY = 5;
  private static final int SWARM = 6;
  private static final int KINDS = 7;
  /** The kind above each kind. */
  private static final int[] ABOVE = {-1, WALKER, WALKER, WALKER, CAT, BOOT, MOTH};

  private final Country now = new Country();
  private final Country kept = new Country();
  private final Country thought = new Country();
  private final Reader reader = new Reader();
  private final Voice speaker = new Voice();
  private final Roads roads = new Roads();
  private final Dyeing dyeing = new Dyeing();
  private final Sheet[] sheets = new Sheet[SHEETS];
  private final int[] refused = new int[ERRORS + 1];
  private int images = 0;

  public CarpetLands() {
    for (int i = 0; i < SHEETS; i++) sheets[i] = new Sheet();
  }

  // ---- knots, walkers

  public int knot(int knot, int what, int v) {
    if (!isKnot(knot) || !isWithin(what, 0, 1)) return refuse(BEYOND);
    if (!isWithin(v, 0, what == 0 ? COLOURS - 1 : MOST_WEAR)) return refuse(BEYOND);
    int before = what == 0 ? now.carpet.colourOf(knot) : now.carpet.wearOf(knot);
    if (what == 0) now.carpet.setColour(knot, v);
    else now.carpet.setWear(knot, v);
    return before;
  }

  public int ofKnot(int knot, int what) {
    if (!isKnot(knot)) return refuse(BEYOND);
    switch (what) {
      case 0: return now.carpet.colourOf(knot);
      case 1: return now.carpet.wearOf(knot);
      case 2: return now.patternOf(knot);
      case 3: return now.worthOf(knot);
      case 4: return Long.bitCount(now.carpet.landOf(knot));
      case 5: return Sets.least(now.carpet.landOf(knot));
      default: return refuse(BEYOND);
    }
  }

  public int weave() {
    int before = now.countSlips();
    for (int knot = 0; knot < KNOTS; knot++) {
      now.carpet.setColour(knot, now.patternOf(knot));
      now.carpet.setWear(knot, 0);
    }
    return before;
  }

  public int mend() {
    int holes = now.carpet.countHoles();
    for (int knot = 0; knot < KNOTS; knot++) {
      if (now.carpet.colourOf(knot) == 0) now.carpet.setColour(knot, now.patternOf(knot));
    }
    return holes;
  }

  public int walker(int km, int knot) {
    if (!isKindAndM(km) || !isKnot(knot)) return refuse(BEYOND);
    int number = now.addWalker(km, knot);
    return number < 0 ? refuse(FULL) : number;
  }

  public int ofWalker(int walker, int what) {
    Walker w = now.walkerOf(walker);
    if (w == null) return refuse(BEYOND);
    switch (what) {
      case 0: return w.kind;
      case 1: return w.m;
      case 2: return w.at;
      case 3: return w.way;
      case 4: return w.wearing();
      case 5: return w.wouldEat(now.carpet) ? 1 : 0;
      default: return refuse(BEYOND);
    }
  }

  public int put(int walker, int knot, int way) {
    Walker w = now.walkerOf(walker);
    if (w == null || !isKnot(knot) || !isWithin(way, 0, 3)) return refuse(BEYOND);
    int before = w.at;
    w.at = knot;
    w.way = way;
    return before;
  }

  public int become(int walker, int km) {
    Walker w = now.walkerOf(walker);
    if (w == null || !isKindAndM(km)) return refuse(BEYOND);
    int before = w.kind;
    w.kind = km / 10;
    w.m = km % 10;
    return before;
  }

  public int as(int walker, int kind) {
    Walker w = now.walkerOf(walker);
    if (w == null || !isWithin(kind, 0, KINDS - 1)) return refuse(BEYOND);
    return w.isOf(kind) ? w.m : refuse(KIND);
  }

  // ---- texts

  public int feed(long word, int n) {
    if (!isWithin(n, 1, 8)) return refuse(BEYOND);
    if (now.tape.length > MOST_BYTES - n) return refuse(FULL);
    for (int i = 0; i < n; i++) now.tape.add((int) (word >>> (8 * i)) & 255);
    return now.tape.length;
  }

  public int text(int use) {
    if (!isUse(use)) return refuse(BEYOND);
    int fault = reader.faultOf(now.tape, use);
    now.tape.clear();
    if (fault >= 0) return -10 - fault;
    now.lawOf(use).learn(reader.signs);
    return 1;
  }

  public int law(int use, int a, int b, int c) {
    return isUse(use) ? now.given(use, a, b, c) : refuse(BEYOND);
  }

  // ---- days

  public int days(int n) {
    if (!isWithin(n, 1, 100)) return refuse(BEYOND);
    if (now.day > MOST_DAY - n) return refuse(STATE);
    for (int i = 0; i < n; i++) now.passDay();
    return now.carpet.countHoles();
  }

  public int loose(int n) {
    if (!isWithin(n, 1, 40)) return refuse(BEYOND);
    if (now.day > MOST_DAY - n) return refuse(STATE);
    for (int i = 0; i < n; i++) now.passLooseDay();
    return now.carpet.countHoles();
  }

  // ---- what is, what would be

  public int lands(int colour) {
    if (!isWithin(colour, -1, COLOURS - 1)) return refuse(BEYOND);
    if (colour >= 0) return now.carpet.countLands(colour);
    int all = 0;
    for (int k = 1; k < COLOURS; k++) all += now.carpet.countLands(k);
    return all;
  }

  public int greatest(int what) {
    if (!isWithin(what, 0, 1)) return refuse(BEYOND);
    long land = now.carpet.greatestLand();
    if (land == 0) return refuse(NONE);
    return what == 0 ? Long.bitCount(land) : Sets.least(land);
  }

  public int nextTo(int knot) {
    return isKnot(knot) ? now.carpet.coloursBeside(knot) : refuse(BEYOND);
  }

  public int frontier(int a, int b) {
    if (!isColour(a) || !isColour(b) || a == b) return refuse(BEYOND);
    return now.carpet.countPairs(a, b);
  }

  public int slips() {
    return now.countSlips();
  }

  public int mends(int colour) {
    return isColour(colour) && colour != 0 ? now.countMends(colour) : refuse(BEYOND);
  }

  public int again(int what) {
    if (!isWithin(what, 0, 1)) return refuse(BEYOND);
    return now.carpet.leastPeriod(what == 0);
  }

  public int stays() {
    int set = 0;
    for (int turn = 0; turn < 8; turn++) {
      if (now.carpet.staysBy(turn)) set |= 1 << turn;
    }
    return set;
  }

  public int road(int from, int to, int colours) {
    if (!isKnot(from) || !isKnot(to) || !isWithin(colours, 0, 255)) return refuse(BEYOND);
    long open = 0;
    for (int k = 0; k < COLOURS; k++) {
      if ((colours >> k & 1) != 0) open |= now.carpet.ofColour(k);
    }
    int steps = roads.fewestSteps(from, to, open);
    return steps < 0 ? refuse(NONE) : steps;
  }

  public int fits(int sheet, int rows, int columns) {
    Sheet s = sheetOf(sheet);
    if (s == null || !isWithin(rows, -5, 5) || !isWithin(columns, -5, 5)) return refuse(BEYOND);
    if (!s.isCarpet()) return refuse(NONE);
    return now.carpet.fitsBy(s, rows, columns) ? 1 : 0;
  }

  public int layings(int sheet, int what) {
    Sheet s = sheetOf(sheet);
    if (s == null || !isWithin(what, 0, 1)) return refuse(BEYOND);
    if (!s.isCarpet()) return refuse(NONE);
    if (what == 0) return now.carpet.countLayings(s);
    int best = now.carpet.bestLaying(s);
    return best < 0 ? refuse(NONE) : best;
  }

  public int cut(int what) {
    if (!isWithin(what, 0, 1)) return refuse(BEYOND);
    int all = 0;
    for (int column = 0; column < SIDE; column++) all += now.worthOfColumn(column);
    int left = 0;
    int best = -1;
    int least = 0;
    for (int column = 0; column < SIDE - 1; column++) {
      left += now.worthOfColumn(column);
      int apart = Math.abs(all - left - left);
      if (best < 0 || apart < least) {
        least = apart;
        best = column;
      }
    }
    return what == 0 ? best : least;
  }

  public int dyed(int knot, int n, int what) {
    if (!isKnot(knot) || !isWithin(n, 1, 3) || !isWithin(what, -1, n - 1)) return refuse(BEYOND);
    dyeing.tryAll(now.carpet, knot, n);
    return what < 0 ? dyeing.best : dyeing.colourOfFlood(what);
  }

  public int then(int n, int walker, int what) {
    if (!isWithin(n, 0, 100) || now.walkerOf(walker) == null || !isWithin(what, 0, 1)) return refuse(BEYOND);
    thought.copyFrom(now);
    for (int i = 0; i < n; i++) thought.passDay();
    Walker w = thought.walkerOf(walker);
    if (w == null) return refuse(BEYOND);
    return what == 0 ? w.at : w.way;
  }

  // ---- draws, voices, sheets, images, what is told

  public int seed(int v) {
    int before = now.z;
    now.z = v;
    return before;
  }

  public int voice(int walker, int act, int x) {
    Walker w = now.walkerOf(walker);
    if (w == null || !isWithin(act, 0, 3)) return refuse(BEYOND);
    return speaker.speak(w, walker, act, x);
  }

  public int trace(int i) {
    return speaker.bodies.has(i) ? speaker.bodies.get(i) : refuse(NONE);
  }

  public int sheet(int sheet, int bits, int n) {
    Sheet s = sheetOf(sheet);
    if (s == null || bits != 0 && bits != 8 && bits != 16 && bits != 32) return refuse(BEYOND);
    if (bits != 0 && n < 0) return refuse(STATE);
    if (bits != 0 && n > MOST_NUMBERS) return refuse(BEYOND);
    s.make(bits, bits == 0 ? 0 : n);
    return 1;
  }

  public int write(int sheet, int i, int v) {
    Sheet s = sheetOf(sheet);
    if (s == null) return refuse(BEYOND);
    if (s.isMissing()) return refuse(NONE);
    if (!s.has(i)) return refuse(BEYOND);
    s.set(i, v);
    return 1;
  }

  public int move(int sheet, int i, int other, int j, int n) {
    Sheet from = sheetOf(sheet);
    Sheet to = sheetOf(other);
    if (from == null || to == null) return refuse(BEYOND);
    if (from.isMissing() || to.isMissing()) return refuse(NONE);
    if (from.bits != to.bits) return refuse(KIND);
    if (!from.hasAll(i, n) || !to.hasAll(j, n)) return refuse(BEYOND);
    System.arraycopy(from.numbers, i, to.numbers, j, n);
    return n;
  }

  public int colours(int sheet) {
    Sheet s = sheetOf(sheet);
    if (s == null) return refuse(BEYOND);
    if (s.isMissing()) return refuse(NONE);
    int set = 0;
    while (set < KNOTS && s.has(set) && isColour(s.get(set))) {
      now.carpet.setColour(set, s.get(set));
      set++;
    }
    return set;
  }

  public int judge(int sheet) {
    Sheet s = sheetOf(sheet);
    if (s == null) return refuse(BEYOND);
    if (s.isMissing()) return refuse(NONE);
    for (int i = 0; i < KNOTS; i++) {
      if (!s.has(i) || s.get(i) != now.carpet.colourOf(i)) return i;
    }
    return s.has(KNOTS) ? KNOTS : -1;
  }

  public int image() {
    kept.copyFrom(now);
    images++;
    return images;
  }

  public int restore() {
    if (images == 0) return refuse(NONE);
    now.copyFrom(kept);
    return now.day;
  }

  public int tell(int v) {
    return now.waiting.add(v) ? now.waiting.length : refuse(FULL);
  }

  public int check() {
    thought.copyFrom(now);
    now.waiting.clear();
    for (int i = 0; i < thought.waiting.length; i++) {
      thought.passDay();
      if (thought.waiting.get(i) != thought.carpet.countHoles()) return 1 + i;
    }
    return 0;
  }

  public int count(int what) {
    switch (what) {
      case 0: return now.walkerCount;
      case 1: return now.day;
      case 2: return now.carpet.countHoles();
      case 3: return now.carpet.wearOfAll();
      case 4: return now.carpet.coloursIn(Sets.ALL) & ~1;
      case 5: return now.tape.length;
      case 6: return now.waiting.length;
      case 7: return speaker.bodies.length;
      case 8: return now.z;
      default: return refuse(BEYOND);
    }
  }

  public int told(int k) {
    return isWithin(k, 1, ERRORS) ? refused[k] : refuse(BEYOND);
  }

  private int refuse(int error) {
    int k = LOW - error;
    if (isWithin(k, 1, ERRORS)) refused[k]++;
    return error;
  }

  private Sheet sheetOf(int sheet) {
    return isWithin(sheet, 0, SHEETS - 1) ? sheets[sheet] : null;
  }

  private static boolean isWithin(int v, int least, int most) {
    return v >= least && v <= most;
  }

  private static boolean isKnot(int knot) {
    return knot >= 0 && knot < KNOTS;
  }

  private static boolean isColour(int colour) {
    return isWithin(colour, 0, COLOURS - 1);
  }

  private static boolean isKindAndM(int km) {
    return isWithin(km, 0, 10 * KINDS - 1);
  }

  private static boolean isUse(int use) {
    return use == PATTERN || use == WORTH;
  }

  /** Sets of knots as bits of a long: bit k stands for knot k. */
  private static final class Sets {
    static final long ALL = (1L << KNOTS) - 1;
    static final long WEST_EDGE = 0x41041041L;
    static final long EAST_EDGE = WEST_EDGE << (SIDE - 1);

    static long of(int knot) {
      return isKnot(knot) ? 1L << knot : 0L;
    }

    static boolean has(long set, int knot) {
      return (set & of(knot)) != 0;
    }

    /** The least knot of a set, or -1. */
    static int least(long set) {
      return set == 0 ? -1 : Long.bitCount((set & -set) - 1);
    }

    /** The knots that lie one step that way from those of a set. */
    static long stepped(long set, int way) {
      switch (way) {
        case 0: return set >>> SIDE;
        case 1: return (set & ~EAST_EDGE) << 1;
        case 2: return set << SIDE & ALL;
        default: return (set & ~WEST_EDGE) >>> 1;
      }
    }

    static long around(long set) {
      return stepped(set, 0) | stepped(set, 1) | stepped(set, 2) | stepped(set, 3);
    }

    /** All of a set that hangs together with the knots of another one in it. */
    static long grown(long from, long within) {
      long land = from & within;
      for (int i = 0; i < KNOTS; i++) {
        long more = (land | around(land)) & within;
        if (more == land) return land;
        land = more;
      }
      return land;
    }

    /** The knot one step that way, or -1. */
    static int beside(int knot, int way) {
      int row = knot / SIDE;
      int column = knot % SIDE;
      switch (way) {
        case 0: return row > 0 ? knot - SIDE : -1;
        case 1: return column < SIDE - 1 ? knot + 1 : -1;
        case 2: return row < SIDE - 1 ? knot + SIDE : -1;
        default: return column > 0 ? knot - 1 : -1;
      }
    }
  }

  /** Numbers behind one another, up to a bound. */
  private static final class Row {
    final int[] numbers;
    int length = 0;

    Row(int most) {
      numbers = new int[Math.max(most, 0)];
    }

    boolean has(int i) {
      return i >= 0 && i < length && i < numbers.length;
    }

    int get(int i) {
      return has(i) ? numbers[i] : 0;
    }

    boolean add(int v) {
      if (length < 0 || length >= numbers.length) return false;
      numbers[length] = v;
      length++;
      return true;
    }

    void clear() {
      length = 0;
    }

    void copyFrom(Row other) {
      clear();
      for (int i = 0; i < other.length; i++) add(other.get(i));
    }
  }

  private static final class Carpet {
    final int[] colours = new int[KNOTS];
    final int[] wears = new int[KNOTS];

    Carpet() {
      for (int knot = 0; knot < KNOTS; knot++) colours[knot] = 1;
    }

    void copyFrom(Carpet other) {
      System.arraycopy(other.colours, 0, colours, 0, KNOTS);
      System.arraycopy(other.wears, 0, wears, 0, KNOTS);
    }

    int colourOf(int knot) {
      return isKnot(knot) ? colours[knot] : 0;
    }

    int wearOf(int knot) {
      return isKnot(knot) ? wears[knot] : 0;
    }

    void setColour(int knot, int colour) {
      if (isKnot(knot)) colours[knot] = colour;
    }

    void setWear(int knot, int wear) {
      if (isKnot(knot)) wears[knot] = Math.min(wear, MOST_WEAR);
    }

    long ofColour(int colour) {
      long set = 0;
      for (int knot = 0; knot < KNOTS; knot++) {
        if (colours[knot] == colour) set |= 1L << knot;
      }
      return set;
    }

    int countHoles() {
      return Long.bitCount(ofColour(0));
    }

    int wearOfAll() {
      int all = 0;
      for (int knot = 0; knot < KNOTS; knot++) all += wears[knot];
      return all;
    }

    long landOf(int knot) {
      return Sets.grown(Sets.of(knot), ofColour(colourOf(knot)));
    }

    int countLands(int colour) {
      long rest = ofColour(colour);
      int n = 0;
      for (int i = 0; i < KNOTS && rest != 0; i++) {
        rest &= ~Sets.grown(rest & -rest, rest);
        n++;
      }
      return n;
    }

    /** The greatest land that is no hole (of several that with the least knot), or the empty set. */
    long greatestLand() {
      long best = 0;
      long seen = ofColour(0);
      for (int knot = 0; knot < KNOTS; knot++) {
        if (Sets.has(seen, knot)) continue;
        long land = landOf(knot);
        seen |= land;
        if (Long.bitCount(land) > Long.bitCount(best)) best = land;
      }
      return best;
    }

    /** The colours of a set of knots, as a set of bits. */
    int coloursIn(long knots) {
      int set = 0;
      for (int knot = 0; knot < KNOTS; knot++) {
        if (Sets.has(knots, knot)) set |= 1 << colours[knot];
      }
      return set;
    }

    int coloursBeside(int knot) {
      long land = landOf(knot);
      return coloursIn(Sets.around(land) & ~land);
    }

    /** How many pairs of knots side by side are one of each of two unlike colours. */
    int countPairs(int a, int b) {
      long ofA = ofColour(a);
      long ofB = ofColour(b);
      int pairs = 0;
      for (int way = 0; way < 4; way++) pairs += Long.bitCount(Sets.stepped(ofA, way) & ofB);
      return pairs;
    }

    /** Whether knots of two colours may lie upon one another, or come again. */
    static boolean meets(int a, int b) {
      return a == b || a == 0 || b == 0;
    }

    int leastPeriod(boolean byColumns) {
      for (int p = 1; p < SIDE; p++) {
        if (comesAgain(byColumns, p)) return p;
      }
      return SIDE;
    }

    boolean comesAgain(boolean byColumns, int p) {
      int along = byColumns ? 1 : SIDE;
      int across = byColumns ? SIDE : 1;
      for (int i = 0; i < SIDE; i++) {
        for (int j = 0; j + p < SIDE; j++) {
          int knot = i * across + j * along;
          if (!meets(colourOf(knot), colourOf(knot + p * along))) return false;
        }
      }
      return true;
    }

    boolean staysBy(int turn) {
      for (int knot = 0; knot < KNOTS; knot++) {
        if (colourOf(knot) != colourOf(comesTo(knot, turn))) return false;
      }
      return true;
    }

    /** Where a turn (4 and more: mirrored first) brings a knot. */
    static int comesTo(int knot, int turn) {
      int row = knot / SIDE;
      int column = turn < 4 ? knot % SIDE : SIDE - 1 - knot % SIDE;
      for (int i = 0; i < turn % 4; i++) {
        int before = row;
        row = column;
        column = SIDE - 1 - before;
      }
      return row * SIDE + column;
    }

    boolean fitsBy(Sheet sheet, int rows, int columns) {
      for (int i = 0; i < KNOTS; i++) {
        int row = i / SIDE + rows;
        int column = i % SIDE + columns;
        boolean isThere = isWithin(row, 0, SIDE - 1) && isWithin(column, 0, SIDE - 1);
        if (isThere && !meets(sheet.get(i), colourOf(row * SIDE + column))) return false;
      }
      return true;
    }

    int countLayings(Sheet sheet) {
      int n = 0;
      for (int rows = -5; rows <= 5; rows++) {
        for (int columns = -5; columns <= 5; columns++) {
          if (fitsBy(sheet, rows, columns)) n++;
        }
      }
      return n;
    }

    /** The laying by which most lie upon one another, as the document numbers it, or -1. */
    int bestLaying(Sheet sheet) {
      int most = 0;
      int best = -1;
      for (int rows = -5; rows <= 5; rows++) {
        for (int columns = -5; columns <= 5; columns++) {
          int covered = (SIDE - Math.abs(rows)) * (SIDE - Math.abs(columns));
          if (covered > most && fitsBy(sheet, rows, columns)) {
            most = covered;
            best = 100 * (rows + 5) + columns + 5;
          }
        }
      }
      return best;
    }
  }

  private static final class Walker {
    int kind = WALKER;
    int m = 0;
    int at = 0;
    int way = 1;

    void copyFrom(Walker other) {
      kind = other.kind;
      m = other.m;
      at = other.at;
      way = other.way;
    }

    static int kindAbove(int kind) {
      return isWithin(kind, 0, KINDS - 1) ? ABOVE[kind] : -1;
    }

    boolean isOf(int wanted) {
      int k = kind;
      for (int i = 0; i < KINDS && k >= 0; i++) {
        if (k == wanted) return true;
        k = kindAbove(k);
      }
      return false;
    }

    int wearing() {
      if (isOf(MOTH)) return 0;
      if (kind == ARMY) return 3 + m;
      return isOf(BOOT) ? 3 : 1;
    }

    boolean wouldEat(Carpet carpet) {
      return kind == SWARM || kind == MOTH && carpet.wearOf(at) >= 10 * m;
    }

    void step(Carpet carpet, int day) {
      if (isOf(CAT)) {
        if (kind != DYNASTY || day % 2 == 0) stepAsCat(carpet);
      } else if (isOf(MOTH)) {
        stepAsMoth(carpet);
      } else {
        stepAsWalker();
        if (isOf(BOOT)) stepAsWalker();
      }
    }

    void stepAsWalker() {
      for (int i = 0; i < 3 && Sets.beside(at, way) < 0; i++) way = (way + 1) % 4;
      go(way);
    }

    void stepAsCat(Carpet carpet) {
      int own = carpet.colourOf(at);
      for (int i = 0; i < 4; i++) {
        int ahead = turned(i);
        int knot = Sets.beside(at, ahead);
        if (knot >= 0 && carpet.colourOf(knot) == own) {
          go(ahead);
          return;
        }
      }
    }

    /** The ways in the order in which a cat looks: on, one more, one less, back. */
    int turned(int i) {
      switch (i) {
        case 0: return way;
        case 1: return (way + 1) % 4;
        case 2: return (way + 3) % 4;
        default: return (way + 2) % 4;
      }
    }

    void stepAsMoth(Carpet carpet) {
      int best = -1;
      int ahead = way;
      for (int w = 0; w < 4; w++) {
        int knot = Sets.beside(at, w);
        if (knot >= 0 && carpet.colourOf(knot) > best) {
          best = carpet.colourOf(knot);
          ahead = w;
        }
      }
      go(ahead);
    }

    void go(int ahead) {
      int knot = Sets.beside(at, ahead);
      if (knot < 0) return;
      way = ahead;
      at = knot;
    }
  }

  /** A text that has been read, as signs of which each takes what stands ahead of it; or none. */
  private static final class Law {
    /** Signs from 0 to 9999 are numbers, those below 0 names, and those from here on operators. */
    static final int OPERATORS = 10000;

    final Row signs = new Row(MOST_BYTES);
    final int[] stack = new int[MOST_BYTES];

    boolean isThere() {
      return signs.length > 0;
    }

    void learn(Row read) {
      signs.copyFrom(read);
    }

    int workedOut(int a, int b, int c) {
      int top = 0;
      for (int i = 0; i < signs.length; i++) {
        int sign = signs.get(i);
        if (sign < OPERATORS) {
          if (top < stack.length) stack[top++] = valueOf(sign, a, b, c);
        } else if (sign == OPERATORS + '!') {
          if (top > 0) stack[top - 1] = stack[top - 1] == 0 ? 1 : 0;
        } else if (top > 1) {
          top--;
          stack[top - 1] = joined(sign - OPERATORS, stack[top - 1], stack[top]);
        }
      }
      return stack[0];
    }

    static int valueOf(int sign, int a, int b, int c) {
      switch (sign) {
        case -1: return a;
        case -2: return b;
        case -3: return c;
        default: return sign;
      }
    }

    static int joined(int operator, int x, int y) {
      switch (operator) {
        case '|': return x != 0 || y != 0 ? 1 : 0;
        case '&': return x != 0 && y != 0 ? 1 : 0;
        case '<': return x < y ? 1 : 0;
        case '=': return x == y ? 1 : 0;
        case '>': return x > y ? 1 : 0;
        case '+': return x + y;
        case '-': return x - y;
        case '*': return x * y;
        case '/': return y == 0 ? 0 : x / y;
        default: return y == 0 ? 0 : x % y;
      }
    }
  }

  /** Reads a text from the tape by its grammar, and stops at the first byte that can't stand there. */
  private static final class Reader {
    static final int MOST_OPEN = 5;
    static final int MOST_DIGITS = 4;
    static final int FACTOR = 5;

    final Row signs = new Row(MOST_BYTES);
    /** The tape that is read; signs until there is one, so that it is never null. */
    private Row bytes = signs;
    private String names = "";
    private int place = 0;
    private boolean failed = false;

    /** The fault of a text, or -1: then signs holds it. */
    int faultOf(Row tape, int use) {
      bytes = tape;
      names = use == PATTERN ? "rcd" : "kwc";
      signs.clear();
      place = 0;
      failed = false;
      readLevel(0, 0);
      return failed || place < bytes.length ? place : -1;
    }

    static String operatorsOf(int level) {
      switch (level) {
        case 0: return "|";
        case 1: return "&";
        case 2: return "<=>";
        case 3: return "+-";
        default: return "*/%";
      }
    }

    /** The byte at hand, or 0 (which no text holds) behind the last one. */
    private int ahead() {
      return bytes.get(place);
    }

    private boolean isAhead(String some) {
      return some.indexOf((char) bytes.get(place)) >= 0;
    }

    private void readLevel(int level, int open) {
      if (level >= FACTOR) {
        readFactor(open);
        return;
      }
      readLevel(level + 1, open);
      // A comparison isn't one side of another one, so at most one stands at its level.
      int most = level == 2 ? 1 : MOST_BYTES;
      for (int i = 0; i < most && !failed && isAhead(operatorsOf(level)); i++) {
        int operator = ahead();
        place++;
        readLevel(level + 1, open);
        signs.add(Law.OPERATORS + operator);
      }
    }

    private void readFactor(int open) {
      if (isAhead("0123456789")) {
        readNumber();
      } else if (isAhead(names)) {
        signs.add(-1 - names.indexOf((char) ahead()));
        place++;
      } else if (open < MOST_OPEN && ahead() == '!') {
        place++;
        readFactor(open + 1);
        signs.add(Law.OPERATORS + '!');
      } else if (open < MOST_OPEN && ahead() == '(') {
        place++;
        readLevel(0, open + 1);
        close();
      } else {
        failed = true;
      }
    }

    private void close() {
      if (failed) return;
      if (ahead() == ')') place++;
      else failed = true;
    }

    private void readNumber() {
      int value = 0;
      for (int i = 0; i < MOST_DIGITS && isAhead("0123456789"); i++) {
        value = value * 10 + (ahead() - '0');
        place++;
      }
      signs.add(value);
    }
  }

  /** All that an image keeps. */
  private static final class Country {
    final Carpet carpet = new Carpet();
    final Walker[] walkers = new Walker[MOST_WALKERS];
    final Law pattern = new Law();
    final Law worth = new Law();
    final Row tape = new Row(MOST_BYTES);
    final Row waiting = new Row(MOST_WAITING);
    int walkerCount = 0;
    int day = 0;
    int z = 1;

    Country() {
      for (int i = 0; i < MOST_WALKERS; i++) walkers[i] = new Walker();
    }

    void copyFrom(Country other) {
      carpet.copyFrom(other.carpet);
      for (int i = 0; i < MOST_WALKERS; i++) walkers[i].copyFrom(other.walkers[i]);
      pattern.learn(other.pattern.signs);
      worth.learn(other.worth.signs);
      tape.copyFrom(other.tape);
      waiting.copyFrom(other.waiting);
      walkerCount = other.walkerCount;
      day = other.day;
      z = other.z;
    }

    Walker walkerOf(int number) {
      return number >= 0 && number < walkerCount && number < MOST_WALKERS ? walkers[number] : null;
    }

    /** The number of a new walker, or -1 if there is no room. */
    int addWalker(int km, int knot) {
      if (!isWithin(walkerCount, 0, MOST_WALKERS - 1)) return -1;
      Walker w = walkers[walkerCount];
      w.kind = km / 10;
      w.m = km % 10;
      w.at = knot;
      w.way = 1;
      walkerCount++;
      return walkerCount - 1;
    }

    Law lawOf(int use) {
      return use == PATTERN ? pattern : worth;
    }

    int given(int use, int a, int b, int c) {
      if (use == PATTERN) return Math.floorMod(pattern.isThere() ? pattern.workedOut(a, b, c) : a + b, 7) + 1;
      int value = worth.isThere() ? worth.workedOut(a, b, c) : a;
      return Math.max(0, Math.min(99, value));
    }

    int patternOf(int knot) {
      return given(PATTERN, knot / SIDE, knot % SIDE, day);
    }

    int worthOf(int knot) {
      return given(WORTH, carpet.colourOf(knot), carpet.wearOf(knot), knot % SIDE);
    }

    int worthOfColumn(int column) {
      int all = 0;
      for (int row = 0; row < SIDE; row++) all += worthOf(row * SIDE + column);
      return all;
    }

    int countSlips() {
      int n = 0;
      for (int knot = 0; knot < KNOTS; knot++) {
        int colour = carpet.colourOf(knot);
        if (colour != 0 && colour != patternOf(knot)) n++;
      }
      return n;
    }

    int countMends(int colour) {
      int n = 0;
      for (int knot = 0; knot < KNOTS; knot++) {
        if (carpet.colourOf(knot) == 0 && patternOf(knot) == colour) n++;
      }
      return n;
    }

    void passDay() {
      for (int i = 0; i < walkerCount && i < MOST_WALKERS; i++) {
        Walker w = walkers[i];
        w.step(carpet, day);
        carpet.setWear(w.at, carpet.wearOf(w.at) + w.wearing());
        if (w.wouldEat(carpet)) carpet.setColour(w.at, 0);
      }
      day++;
    }

    void passLooseDay() {
      int knot = draw() % KNOTS;
      int colour = draw() % COLOURS;
      carpet.setColour(knot, colour);
      passDay();
    }

    int draw() {
      z = z * 1103515245 + 12345;
      return z >>> 8;
    }
  }

  /** Roads on which no two steps behind one another go the same way. */
  private static final class Roads {
    /** Sets of knots, by the way of the step that came there last. */
    private final long[] seen = new long[4];
    private final long[] fresh = new long[4];
    private final long[] next = new long[4];

    /** How many steps the shortest road by a set of knots has, or -1. */
    int fewestSteps(int from, int to, long open) {
      if (!Sets.has(open, from) || !Sets.has(open, to)) return -1;
      if (from == to) return 0;
      for (int way = 0; way < 4; way++) {
        fresh[way] = Sets.stepped(Sets.of(from), way) & open;
        seen[way] = fresh[way];
      }
      // A shortest road comes to no knot twice by the same way.
      for (int steps = 1; steps <= 4 * KNOTS; steps++) {
        if (Sets.has(fresh[0] | fresh[1] | fresh[2] | fresh[3], to)) return steps;
        goOn(open);
      }
      return -1;
    }

    private void goOn(long open) {
      for (int way = 0; way < 4; way++) {
        long others = 0;
        for (int last = 0; last < 4; last++) {
          if (last != way) others |= fresh[last];
        }
        next[way] = Sets.stepped(others, way) & open & ~seen[way];
      }
      for (int way = 0; way < 4; way++) {
        fresh[way] = next[way];
        seen[way] |= next[way];
      }
    }
  }

  /** All rows of a few floods of dye, and the first of the best. */
  private static final class Dyeing {
    static final int MOST_FLOODS = 3;

    private final long[] sets = new long[COLOURS];
    private final int[] row = new int[MOST_FLOODS];
    private final int[] bestRow = new int[MOST_FLOODS];
    int best = 0;

    void tryAll(Carpet carpet, int knot, int n) {
      for (int k = 0; k < COLOURS; k++) sets[k] = carpet.ofColour(k);
      best = 0;
      flood(carpet.landOf(knot), 0, n);
    }

    int colourOfFlood(int i) {
      return isWithin(i, 0, MOST_FLOODS - 1) ? bestRow[i] : 0;
    }

    /** Only the knot's land is ever dyed, so all around it is as it was at first. */
    private void flood(long land, int done, int n) {
      if (done >= n || done >= MOST_FLOODS) {
        keepIfBetter(Long.bitCount(land));
        return;
      }
      for (int k = 1; k < COLOURS; k++) {
        row[done] = k;
        flood(Sets.grown(land, land | sets[k]), done + 1, n);
      }
    }

    private void keepIfBetter(int size) {
      if (size <= best) return;
      best = size;
      System.arraycopy(row, 0, bestRow, 0, MOST_FLOODS);
    }
  }

  /** What walkers say by the bodies of their kinds. */
  private static final class Voice {
    static final int WALKS = 0;
    static final int WEARS = 1;
    static final int EATS = 2;
    static final int TELLS = 3;
    static final int ACTS = 4;
    static final int MOST_DEPTH = 20;
    /** The number of each kind's body for each act, 0 where it has none of its own. */
    static final int[] BODIES = {
      10, 11, 12, 13,
      20, 0, 0, 0,
      0, 30, 0, 0,
      0, 0, 40, 0,
      0, 0, 0, 50,
      0, 60, 0, 0,
      0, 0, 70, 71,
    };

    final Row bodies = new Row(MOST_BODIES);
    private int kind = WALKER;
    private int n = 0;
    private int m = 0;

    int speak(Walker walker, int number, int act, int x) {
      bodies.clear();
      kind = walker.kind;
      n = number;
      m = walker.m;
      return say(kind, act, x, 0);
    }

    /** The body for an act of a kind, or of the next kind above that has one. */
    static int bodyOf(int from, int act) {
      int k = from;
      for (int i = 0; i < KINDS && k >= 0; i++) {
        int place = k * ACTS + act;
        int body = isWithin(place, 0, BODIES.length - 1) ? BODIES[place] : 0;
        if (body != 0) return body;
        k = Walker.kindAbove(k);
      }
      return 0;
    }

    private int say(int from, int act, int x, int depth) {
      if (depth > MOST_DEPTH) return 0;
      int body = bodyOf(from, act);
      bodies.add(body);
      int d = depth + 1;
      switch (body) {
        case 10: return x + n;
        case 11: return say(kind, WALKS, x, d) * 2;
        case 12: return x - m;
        case 13: return say(kind, WEARS, x, d) ^ say(kind, EATS, x, d);
        case 20: return say(WALKER, WALKS, x, d) * 3;
        case 30: return say(WALKER, WEARS, x, d) - say(kind, EATS, 1, d);
        case 40: return -say(WALKER, EATS, x, d);
        case 50: return say(CAT, TELLS, x, d) - say(kind, WALKS, 2, d);
        case 60: return say(BOOT, WEARS, x + 1, d);
        case 70: return say(MOTH, EATS, x, d) ^ n;
        case 71: return say(kind, WEARS, x, d) - say(MOTH, TELLS, x, d);
        default: return 0;
      }
    }
  }

  /** A row of numbers of 8, 16 or 32 bits; of 0 bits while it is missing. */
  private static final class Sheet {
    final int[] numbers = new int[MOST_NUMBERS];
    int bits = 0;
    int length = 0;

    void make(int newBits, int newLength) {
      bits = newBits;
      length = newLength;
      for (int i = 0; i < MOST_NUMBERS; i++) numbers[i] = 0;
    }

    boolean isMissing() {
      return bits == 0;
    }

    boolean has(int i) {
      return i >= 0 && i < length && i < MOST_NUMBERS;
    }

    /** Whether n numbers stand there from number i on. */
    boolean hasAll(int i, int n) {
      return i >= 0 && n >= 0 && n <= length && i <= length - n;
    }

    int get(int i) {
      return has(i) ? numbers[i] : 0;
    }

    void set(int i, int v) {
      if (!has(i)) return;
      numbers[i] = bits == 32 ? v : v & (1 << bits) - 1;
    }

    boolean isCarpet() {
      if (isMissing() || length != KNOTS) return false;
      for (int i = 0; i < KNOTS; i++) {
        if (!isColour(numbers[i])) return false;
      }
      return true;
    }
  }
}
