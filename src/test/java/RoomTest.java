import com.sun.management.ThreadMXBean;
import java.lang.management.ManagementFactory;

/**
 * The dearest runs of 512 calls stay in the room that all calls of a run share (7.3 million fields and
 * elements; 8 bytes each would be 58 million bytes) with much to spare, and end soon.
 */
public final class RoomTest {
  private static final long MOST_BYTES = 4_000_000;
  private static int wrong = 0;

  public static void main(String[] args) {
    // the first use loads classes, which is not the program's
    dearestWorths(new LakeChain(), 20);
    measure("a new object", 20_000, 0);
    measure("worths anew each time", MOST_BYTES, 1);
    measure("trees anew each time", MOST_BYTES, 2);
    measure("rules and runs", MOST_BYTES, 3);
    if (wrong != 0) System.exit(1);
  }

  private static void measure(String what, long mostBytes, int kind) {
    ThreadMXBean threads = (ThreadMXBean) ManagementFactory.getThreadMXBean();
    long id = Thread.currentThread().getId();
    long start = System.nanoTime();
    long before = threads.getThreadAllocatedBytes(id);
    LakeChain x = new LakeChain();
    if (kind == 1) dearestWorths(x, 512);
    if (kind == 2) treesAnew(x, 512);
    if (kind == 3) rulesAndRuns(x, 512);
    long bytes = threads.getThreadAllocatedBytes(id) - before;
    System.out.println(what + ": " + bytes + " bytes, " + (System.nanoTime() - start) / 1_000_000 + " ms");
    if (bytes > mostBytes) {
      wrong++;
      System.out.println("that is more than " + mostBytes);
    }
  }

  /** Three lakes of 1000 states and chains of ten weeks; answers how many calls it took. */
  private static int wideValley(LakeChain x) {
    for (int i = 0; i < 3; i++) x.lake(0, 9, 10, 0);
    x.weeks(10, 6);
    int calls = 4;
    int[] ends = new int[8];
    for (int i = 0; i < 6; i++, calls++) ends[i] = x.node(0, 1, 111 * i);
    for (int week = 1; week < 10; week++) {
      for (int i = 0; i < 6; i++, calls++) ends[i] = x.node(ends[i], 6, (week * 137 + i * 71) % 1000);
    }
    for (int i = 0; i < 3; i++, calls++) x.end(i, 3 + i);
    return calls;
  }

  private static void dearestWorths(LakeChain x, int calls) {
    int call = wideValley(x);
    while (call + 2 <= calls) {
      x.price(call % 10, call % 21);
      x.worth(0, call % 1000);
      call += 2;
    }
  }

  private static void treesAnew(LakeChain x, int calls) {
    int call = 0;
    for (int i = 0; i < 3; i++, call++) {
      x.lake(0, i < 2 ? 30 : 0, 10, 5);
      x.weeks(2, 1);
      x.node(0, 1, 1);
      x.node(1, 1, 1);
      x.needs(0, Long.MAX_VALUE);
      x.weeks(2, 1);
      call += 5;
    }
    while (call + 4 <= calls) {
      x.weeks(2, 1);
      x.node(0, 1, call % 100);
      x.node(1, 1, call % 50);
      x.needs(0, Long.MAX_VALUE);
      call += 4;
    }
  }

  private static void rulesAndRuns(LakeChain x, int calls) {
    int call = wideValley(x);
    while (call + 6 <= calls) {
      x.mean(0, call);
      x.lack(0, call);
      x.flood(call, 1, 3, 4);
      x.begin(call);
      x.best(call % 6);
      x.ruled(0);
      call += 6;
    }
  }
}
