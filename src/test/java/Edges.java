import java.lang.reflect.InvocationTargetException;
import java.lang.reflect.Method;
import java.util.Map;
import java.util.TreeMap;

/**
 * What the tests of boundary cases share. Each sentence of the document that names such a case has a method of
 * its own, promise07_weightsBeyondD and so on: go() finds these by their names and runs them in that order.
 */
final class Edges {
  static final long NO = -9000000000000000000L;
  static final int BAD = -1, BUSY = -2, ROUGH = -3, OVER = -4, FULL = -5, NONE = -6;
  static final int MIN = Integer.MIN_VALUE, MAX = Integer.MAX_VALUE;

  private static String test = "";
  private static int asked = 0;
  private static int wrong = 0;

  private Edges() {
  }

  static void due(String call, long got, long want) {
    asked++;
    if (got == want) return;
    wrong++;
    System.out.println(test + ": " + call + " answered " + got + ", due is " + want);
  }

  /** Asks now(0), now(1) and so on. */
  static void dueNow(LakeChain x, int... wants) {
    for (int i = 0; i < wants.length; i++) due("now(" + i + ")", x.now(i), wants[i]);
  }

  /** Asks count(0), count(1) and so on. */
  static void dueCounts(LakeChain x, int... wants) {
    for (int i = 0; i < wants.length; i++) due("count(" + i + ")", x.count(i), wants[i]);
  }

  /** One lake, one week, one part, and one child with that inflow. */
  static LakeChain one(int least, int greatest, int limit, int fish, int in) {
    LakeChain x = new LakeChain();
    x.lake(least, greatest, limit, fish);
    x.node(0, 1, in);
    return x;
  }

  /** Lakes with least 0, limit 10, fish 0 and these greatests, one week, one part, one child. */
  static LakeChain chain(int in, int... greatests) {
    LakeChain x = new LakeChain();
    for (int greatest : greatests) x.lake(0, greatest, 10, 0);
    x.node(0, 1, in);
    return x;
  }

  /** One lake (0 .. 9, limit 3), two weeks, two parts; 1: dry, 2: wet (4); below 1: 3 (0), 4 (5); below 2: 5 (1). */
  static LakeChain fork() {
    LakeChain x = new LakeChain();
    x.lake(0, 9, 3, 0);
    x.weeks(2, 2);
    x.node(0, 1, 0);
    x.node(0, 1, 4);
    x.node(1, 1, 0);
    x.node(1, 1, 5);
    x.node(2, 2, 1);
    return x;
  }

  /** Runs every test of a class; each promise from first to last must have one, and each test must ask something. */
  static void go(Class<?> tests, int first, int last) throws IllegalAccessException {
    Map<String, Method> sorted = new TreeMap<>();
    for (Method m : tests.getDeclaredMethods()) {
      if (m.getName().startsWith("promise")) sorted.put(m.getName(), m);
    }
    for (Method m : sorted.values()) runOne(m);
    for (int promise = first; promise <= last; promise++) {
      String name = String.format("promise%02d_", promise);
      if (sorted.keySet().stream().noneMatch(n -> n.startsWith(name))) fail("no test of " + name);
    }
    System.out.println(sorted.size() + " boundary cases, " + asked + " answers, " + wrong + " not as due");
    if (wrong != 0) System.exit(1);
  }

  private static void runOne(Method m) throws IllegalAccessException {
    test = m.getName();
    int before = asked;
    try {
      m.invoke(null);
    } catch (InvocationTargetException e) {
      fail(test + ": thrown: " + e.getCause());
    }
    if (asked == before) fail(test + " asked nothing");
  }

  private static void fail(String why) {
    wrong++;
    System.out.println(why);
  }
}
