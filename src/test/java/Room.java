import java.lang.management.ManagementFactory;

/** What the dearest runs of calls leave in the room: next to nothing, since every row is made in the constructor. */
public final class Room {
  private static final int CALLS = 512;
  private static final long MOST_BYTES = 20_000;
  private static int wrong = 0;
  private static final com.sun.management.ThreadMXBean ROOM = (com.sun.management.ThreadMXBean) ManagementFactory.getThreadMXBean();

  private static long taken() {
    return ROOM.getThreadAllocatedBytes(Thread.currentThread().getId());
  }

  public static void main(String[] args) {
    for (int act = 0; act < 14; act++) {
      // The first run loads classes, which takes room once for all objects.
      roomOf(act);
      long bytes = roomOf(act);
      if (bytes > MOST_BYTES) {
        wrong++;
        System.out.println("run " + act + " takes " + bytes + " bytes");
      }
    }
    System.out.println(wrong == 0 ? "the room stays empty" : wrong + " runs take too much room");
    if (wrong != 0) System.exit(1);
  }

  /** What a new object and a run of one dear act take. */
  private static long roomOf(int act) {
    long before = taken();
    CarpetLands x = new CarpetLands();
    for (int i = 0; i < 5; i++) x.walker(i * 13 + 5, i * 7);
    x.weave();
    x.sheet(0, 32, 36);
    x.image();
    for (int i = 0; i < CALLS; i++) dearest(x, act, i);
    return taken() - before;
  }

  private static void dearest(CarpetLands x, int act, int i) {
    switch (act) {
      case 0: x.days(19); break;
      case 1: x.loose(19); break;
      case 2: x.then(100, 0, 0); break;
      case 3: if (i % 21 < 20) x.tell(0); else x.check(); break;
      case 4: x.dyed(i % 36, 3, -1); break;
      case 5: x.layings(0, i % 2); break;
      case 6: x.road(0, 35, 255); break;
      case 7: if (i % 2 == 0) x.feed(0x63322a7272282121L, 8); else x.text(0); break;
      case 8: if (i % 3 < 2) x.feed(0x2b722b722b722b72L, i % 3 == 0 ? 8 : 7); else x.text(0); break;
      case 9: x.image(); x.restore(); break;
      case 10: x.voice(i % 5, 3, i); break;
      case 11: x.sheet(i % 4, 32, 40); break;
      case 12: x.greatest(0); x.stays(); x.cut(0); x.slips(); break;
      default: x.move(0, 0, 0, 1, 35); x.colours(0); x.judge(0); break;
    }
  }
}
