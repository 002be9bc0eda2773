/** For each promise of the document: ordinary calls, its edges, and wrong ones, with answers worked out by hand. */
public final class PromiseTest {
  private static final long NO = -9000000000000000000L;
  private static final int MIN = Integer.MIN_VALUE, MAX = Integer.MAX_VALUE;
  private static int promise = 0;
  private static int asked = 0;
  private static int wrong = 0;

  private static void due(String call, long got, long want) {
    asked++;
    if (got == want) return;
    wrong++;
    System.out.println("promise " + promise + ": " + call + " answered " + got + ", due is " + want);
  }

  public static void main(String[] args) {
    newObject();
    lake();
    lakeAnswersInOrder();
    head();
    end();
    weeks();
    price();
    node();
    nodesFull();
    about();
    count();
    worth();
    worthOfChain();
    policy();
    water();
    needs();
    rule();
    mean();
    worst();
    lack();
    flood();
    cases();
    begin();
    week();
    weekOfChain();
    best();
    ruled();
    undo();
    tenWeeks();
    stop();
    now();
    refusedChangesNothing();
    constants();
    System.out.println(asked + " answers, " + wrong + " not as due");
    if (wrong != 0) System.exit(1);
  }

  /** One lake (least 1, greatest 4, limit 2, fish 1), two weeks, two parts: wet (3) or dry (0), then 1. */
  private static LakeChain small() {
    LakeChain x = new LakeChain();
    x.lake(1, 4, 2, 1);
    x.weeks(2, 2);
    x.node(0, 1, 0);
    x.node(0, 1, 3);
    x.node(1, 2, 1);
    x.node(2, 2, 1);
    return x;
  }

  /** Two lakes (greatest 2 and 3), one week, one part, in comes 1 and 2. */
  private static LakeChain pair() {
    LakeChain x = new LakeChain();
    x.lake(0, 2, 2, 0);
    x.lake(1, 3, 1, 0);
    x.node(0, 1, 12);
    return x;
  }

  private static void newObject() {
    promise = 1;
    LakeChain x = new LakeChain();
    int[] counts = {0, 1, 1, 0, 1, 1, 0};
    for (int i = 0; i < counts.length; i++) due("count(" + i + ")", x.count(i), counts[i]);
    int[] abouts = {-1, 1, -1, 0, 0, -2, -2, -2};
    for (int i = 0; i < abouts.length; i++) due("about(0, " + i + ")", x.about(0, i), abouts[i]);
    due("about(1, 0)", x.about(1, 0), -2);
    due("begin(0)", x.begin(0), -3);
    due("begin(1)", x.begin(1), -1);
    due("cases(0)", x.cases(0), -3);
    due("worth(0, 0)", x.worth(0, 0), NO);
    due("needs(0, 0)", x.needs(0, 0), -3);
    due("lack(0, 0)", x.lack(0, 0), -3);
    due("stop()", x.stop(), 0);
    due("undo()", x.undo(), -6);
    due("now(0)", x.now(0), -6);
  }

  private static void lake() {
    promise = 2;
    LakeChain x = new LakeChain();
    int[][] bad = {
      {-1, 5, 1, 1}, {6, 5, 1, 1}, {0, -1, 1, 1}, {-1, -1, 1, 1}, {0, 31, 1, 1}, {31, 31, 1, 1}, {0, 5, -1, 1},
      {0, 5, 11, 1}, {0, 5, 1, -1}, {0, 5, 1, 6}, {0, MAX, 1, 1}, {MIN, 5, 1, 1}, {0, 5, MAX, 1}, {0, 5, 1, MIN}
    };
    for (int[] b : bad) due("lake(" + java.util.Arrays.toString(b) + ")", x.lake(b[0], b[1], b[2], b[3]), -1);
    due("count(0)", x.count(0), 0);
    due("lake(30, 30, 10, 5)", x.lake(30, 30, 10, 5), 0);
    due("lake(0, 30, 0, 0)", x.lake(0, 30, 0, 0), 1);
    due("count(2)", x.count(2), 961);
    due("lake(0, 1, 1, 1), 1922 states", x.lake(0, 1, 1, 1), -1);
    due("lake(0, 0, 1, 1)", x.lake(0, 0, 1, 1), 2);
    due("count(0)", x.count(0), 3);
    due("lake(0, 30, 1, 1), a fourth", x.lake(0, 30, 1, 1), -5);
    due("lake(0, 31, 1, 1), a fourth", x.lake(0, 31, 1, 1), -1);
    LakeChain y = new LakeChain();
    y.lake(0, 9, 1, 1);
    y.lake(0, 9, 1, 1);
    due("lake(0, 10, 1, 1), 1100 states", y.lake(0, 10, 1, 1), -1);
    due("lake(0, 9, 1, 1), 1000 states", y.lake(0, 9, 1, 1), 2);
  }

  private static void lakeAnswersInOrder() {
    promise = 2;
    LakeChain x = new LakeChain();
    x.lake(0, 30, 1, 1);
    due("node(0, 1, 5)", x.node(0, 1, 5), 1);
    due("lake(0, 0, 1, 1) behind a node", x.lake(0, 0, 1, 1), -5);
    x.begin(0);
    due("lake(0, 0, 1, 1) in a run", x.lake(0, 0, 1, 1), -2);
    due("lake(0, 30, 1, 6) in a run", x.lake(0, 30, 1, 6), -1);
    due("lake(1, 0, 1, 1) in a run", x.lake(1, 0, 1, 1), -1);
    x.stop();
    due("lake(0, 0, 1, 1) behind the run", x.lake(0, 0, 1, 1), -5);
    x.weeks(1, 1);
    due("lake(0, 0, 1, 1) when the nodes are gone", x.lake(0, 0, 1, 1), 1);
  }

  private static void head() {
    promise = 3;
    LakeChain x = new LakeChain();
    due("head(0, 0, 1) without a lake", x.head(0, 0, 1), -1);
    x.lake(0, 4, 2, 0);
    int[][] bad = {{-1, 0, 1}, {1, 0, 1}, {0, -1, 1}, {0, 5, 1}, {0, 4, -1}, {0, 4, 10}, {MAX, 0, 1}, {0, MIN, 1}};
    for (int[] b : bad) due("head(" + java.util.Arrays.toString(b) + ")", x.head(b[0], b[1], b[2]), -1);
    due("head(0, 4, 9)", x.head(0, 4, 9), 1);
    due("head(0, 4, 9)", x.head(0, 4, 9), 9);
    due("head(0, 2, 3): 3 has 1", x.head(0, 2, 3), -1);
    due("head(0, 3, 3)", x.head(0, 3, 3), 1);
    due("head(0, 2, 3)", x.head(0, 2, 3), 1);
    due("head(0, 3, 2): 2 has 3", x.head(0, 3, 2), -1);
    due("head(0, 0, 0)", x.head(0, 0, 0), 1);
    due("head(0, 1, 0)", x.head(0, 1, 0), 1);
    due("head(0, 4, 3)", x.head(0, 4, 3), 9);
    due("head(0, 4, 2)", x.head(0, 4, 2), -1);
    x.node(0, 1, 0);
    due("worth(0, 3): 2 at head 3", x.worth(0, 3), 6);
    due("worth(0, 1): head 0", x.worth(0, 1), 0);
    x.begin(0);
    due("head(0, 4, 4) in a run", x.head(0, 4, 4), -2);
    due("head(0, 4, 2) in a run", x.head(0, 4, 2), -1);
    x.stop();
    due("head(0, 4, 4)", x.head(0, 4, 4), 3);
    due("worth(0, 4): 2 at head 4", x.worth(0, 4), 8);
  }

  private static void end() {
    promise = 4;
    LakeChain x = pair();
    int[][] bad = {{-1, 0}, {2, 0}, {0, -1}, {0, 100}, {MIN, 0}, {0, MAX}};
    for (int[] b : bad) due("end(" + java.util.Arrays.toString(b) + ")", x.end(b[0], b[1]), -1);
    due("end(0, 99)", x.end(0, 99), 0);
    due("end(0, 7)", x.end(0, 7), 99);
    due("end(1, 10)", x.end(1, 10), 0);
    due("worth(1, 6): 1 and 2", x.worth(1, 6), 27);
    due("worth(1, 11): 2 and 3", x.worth(1, 11), 44);
    x.begin(0);
    due("end(0, 1) in a run", x.end(0, 1), -2);
    due("end(0, 100) in a run", x.end(0, 100), -1);
    x.stop();
    due("end(0, 0)", x.end(0, 0), 7);
    due("worth(1, 6)", x.worth(1, 6), 20);
  }

  private static void weeks() {
    promise = 5;
    LakeChain x = small();
    int[][] bad = {{0, 1}, {11, 1}, {1, 0}, {1, 7}, {-1, 1}, {1, -1}, {MAX, 1}, {1, MIN}};
    for (int[] b : bad) due("weeks(" + java.util.Arrays.toString(b) + ")", x.weeks(b[0], b[1]), -1);
    due("count(1)", x.count(1), 5);
    x.price(0, 9);
    x.begin(0);
    due("weeks(1, 1) in a run", x.weeks(1, 1), -2);
    due("weeks(0, 1) in a run", x.weeks(0, 1), -1);
    x.stop();
    due("weeks(10, 6)", x.weeks(10, 6), 1);
    due("count(4)", x.count(4), 10);
    due("count(5)", x.count(5), 6);
    due("count(1)", x.count(1), 1);
    due("count(0)", x.count(0), 1);
    due("count(6)", x.count(6), 0);
    due("about(0, 1)", x.about(0, 1), 6);
    due("about(0, 3)", x.about(0, 3), 0);
    due("about(0, 4)", x.about(0, 4), 0);
    due("about(1, 0)", x.about(1, 0), -2);
    due("price(0, 1), as it was", x.price(0, 1), 9);
    due("node(0, 6, 7)", x.node(0, 6, 7), 1);
    due("about(1, 3): a new one", x.about(1, 3), 0);
    due("about(1, 4): a new one", x.about(1, 4), 0);
    due("about(1, 5): a new one", x.about(1, 5), 7);
  }

  private static void price() {
    promise = 6;
    LakeChain x = small();
    int[][] bad = {{-1, 1}, {10, 1}, {0, -1}, {0, 21}, {MAX, 1}, {0, MIN}};
    for (int[] b : bad) due("price(" + java.util.Arrays.toString(b) + ")", x.price(b[0], b[1]), -1);
    for (int i = 0; i < 10; i++) due("price(" + i + ", 20)", x.price(i, 20), 1);
    due("price(9, 0), beyond the last week", x.price(9, 0), 20);
    due("price(9, 3)", x.price(9, 3), 0);
    x.begin(0);
    due("price(0, 1) in a run", x.price(0, 1), -2);
    due("price(0, 21) in a run", x.price(0, 21), -1);
    x.stop();
    x.price(0, 5);
    x.price(1, 7);
    x.begin(4);
    due("week(2, 0) at price 5", x.week(2, 0), 10);
    due("week(1, 0) at price 7", x.week(1, 0), 7);
  }

  private static void node() {
    promise = 7;
    LakeChain x = new LakeChain();
    due("node(0, 1, 1) without a lake", x.node(0, 1, 1), -1);
    x.lake(0, 4, 2, 0);
    x.lake(0, 4, 2, 0);
    x.weeks(2, 4);
    int[][] bad = {{-1, 1, 0}, {1, 1, 0}, {0, 0, 0}, {0, 5, 0}, {0, -1, 0}, {0, 1, -1}, {0, 1, 100}, {MAX, 1, 0},
      {0, MAX, 0}, {0, MIN, 0}, {0, 1, MAX}, {0, 1, MIN}};
    for (int[] b : bad) due("node(" + java.util.Arrays.toString(b) + ")", x.node(b[0], b[1], b[2]), -1);
    due("node(0, 3, 99)", x.node(0, 3, 99), 1);
    due("node(0, 2, 0): 5 of 4", x.node(0, 2, 0), -1);
    due("node(0, 1, 70)", x.node(0, 1, 70), 2);
    due("node(0, 1, 0): 5 of 4", x.node(0, 1, 0), -1);
    due("node(2, 4, 5)", x.node(2, 4, 5), 3);
    due("node(3, 1, 0) below the last week", x.node(3, 1, 0), -1);
    due("node(1, 4, 0)", x.node(1, 4, 0), 4);
    due("about(2, 5)", x.about(2, 5), 7);
    due("about(2, 6)", x.about(2, 6), 0);
    due("about(3, 5)", x.about(3, 5), 0);
    due("about(3, 6)", x.about(3, 6), 5);
    x.begin(0);
    due("node(0, 9, 0) in a run", x.node(0, 9, 0), -1);
    due("node(0, 1, 0) in a run: BAD first", x.node(0, 1, 0), -1);
    LakeChain y = new LakeChain();
    due("node(0, 1, 0) without a lake", y.node(0, 1, 0), 1);
    due("count(6) without a lake", y.count(6), 0);
  }

  private static void nodesFull() {
    promise = 7;
    LakeChain x = new LakeChain();
    x.lake(0, 1, 1, 0);
    x.weeks(10, 6);
    int last = 0;
    // the beginning and the first 13 nodes have 6 children each, the 14th has 2
    for (int i = 0; i < 80; i++) last = x.node(i / 6, 1, i % 10);
    due("the 80th node", last, 80);
    due("count(1)", x.count(1), 81);
    due("node(14, 1, 0), an 81st", x.node(14, 1, 0), -5);
    due("node(14, 7, 0), an 81st", x.node(14, 7, 0), -1);
    due("node(0, 1, 0), an 81st beyond 6", x.node(0, 1, 0), -1);
    due("about(80, 0)", x.about(80, 0), 13);
    due("about(80, 2)", x.about(80, 2), 2);
    due("about(13, 3)", x.about(13, 3), 2);
    due("about(12, 3)", x.about(12, 3), 6);
    due("about(81, 0)", x.about(81, 0), -2);
    due("count(6)", x.count(6), 0);
    x.weeks(1, 1);
    due("node(0, 1, 0), when they are gone", x.node(0, 1, 0), 1);
  }

  private static void about() {
    promise = 8;
    LakeChain x = new LakeChain();
    x.lake(0, 4, 2, 0);
    x.lake(0, 4, 2, 0);
    x.lake(0, 4, 2, 0);
    x.weeks(2, 5);
    x.node(0, 2, 987);
    x.node(1, 3, 6);
    x.node(1, 1, 0);
    int[][] all = {{-1, 5, -1, 1, 2, 0, 0, 0}, {0, 2, 0, 2, 4, 9, 8, 7}, {1, 3, 1, 0, 0, 0, 0, 6}};
    for (int n = 0; n < 3; n++) {
      for (int i = 0; i < 8; i++) due("about(" + n + ", " + i + ")", x.about(n, i), all[n][i]);
    }
    int[][] bad = {{-1, 0}, {4, 0}, {0, -1}, {0, 8}, {1, 8}, {MIN, 0}, {MAX, 0}, {0, MIN}, {0, MAX}};
    for (int[] b : bad) due("about(" + java.util.Arrays.toString(b) + ")", x.about(b[0], b[1]), -2);
    LakeChain y = small();
    due("about(2, 5)", y.about(2, 5), 3);
    due("about(2, 6): no such lake", y.about(2, 6), -2);
    due("about(0, 5)", y.about(0, 5), 0);
    due("about(0, 7): no such lake", y.about(0, 7), -2);
  }

  private static void count() {
    promise = 9;
    LakeChain x = small();
    int[] counts = {1, 5, 5, 0, 2, 2, 1};
    for (int i = 0; i < counts.length; i++) due("count(" + i + ")", x.count(i), counts[i]);
    for (int i : new int[] {-1, 7, MIN, MAX}) due("count(" + i + ")", x.count(i), -1);
    x.begin(0);
    due("count(3)", x.count(3), 1);
    x.stop();
    due("count(3)", x.count(3), 0);
    due("count(2) of two lakes", pair().count(2), 12);
    LakeChain y = new LakeChain();
    y.lake(0, 4, 2, 0);
    y.weeks(2, 2);
    due("count(6), the beginning alone", y.count(6), 0);
    y.node(0, 2, 0);
    due("count(6), nothing below 1", y.count(6), 0);
    y.node(1, 1, 0);
    due("count(6), 1 of 2 below 1", y.count(6), 0);
    y.node(1, 1, 0);
    due("count(6)", y.count(6), 1);
  }

  private static void worth() {
    promise = 10;
    LakeChain x = small();
    // at 3 (week 1, the last): end 0
    due("worth(3, 4)", x.worth(3, 4), 0);
    // at 1, one week left, times 2: 4 may let 1 or 2, 2 may let 1, 1 must let 1
    due("worth(1, 4)", x.worth(1, 4), 4);
    due("worth(1, 2)", x.worth(1, 2), 2);
    due("worth(1, 1)", x.worth(1, 1), 2);
    due("worth(1, 0)", x.worth(1, 0), 0);
    // at 0 from 4: let 2: 8 and (2 at dry: 2) and (4 at wet: 4)
    due("worth(0, 4)", x.worth(0, 4), 14);
    x.end(0, 3);
    due("worth(3, 4)", x.worth(3, 4), 12);
    // let 1: 2 and 2 * (4 - 1 + 1) * 3
    due("worth(1, 4)", x.worth(1, 4), 26);
    int[][] bad = {{-1, 0}, {5, 0}, {0, -1}, {0, 5}, {MIN, 0}, {MAX, 0}, {0, MIN}, {0, MAX}};
    for (int[] b : bad) due("worth(" + java.util.Arrays.toString(b) + ")", x.worth(b[0], b[1]), NO);
    x.weeks(1, 2);
    due("worth(0, 0), rough", x.worth(0, 0), NO);
    x.node(0, 1, 0);
    due("worth(1, 0), rough", x.worth(1, 0), NO);
    x.node(0, 1, 4);
    due("worth(1, 2)", x.worth(1, 2), 6);
    // let 1 of 4: 2 and 3 * (3 + 4): the rest of the 4 that come spills
    due("worth(0, 4)", x.worth(0, 4), 23);
  }

  private static void worthOfChain() {
    promise = 10;
    LakeChain x = pair();
    // (2, 3) = 11: lets (2, 1) earn 3
    due("worth(0, 11)", x.worth(0, 11), 3);
    x.price(0, 2);
    due("worth(0, 11)", x.worth(0, 11), 6);
    x.end(0, 5);
    // let 1 of lake 0 and 1 of lake 1: 4 and 5 * 2; 2 and 1: 6 and 5
    due("worth(0, 11)", x.worth(0, 11), 14);
    x.end(1, 1);
    due("worth(0, 11)", x.worth(0, 11), 17);
    LakeChain y = new LakeChain();
    y.lake(0, 1, 0, 0);
    y.lake(0, 1, 0, 0);
    y.lake(0, 9, 0, 0);
    y.end(2, 1);
    y.node(0, 1, 920);
    // 9 into lake 0, 8 on into lake 1, 9 on into lake 2
    due("worth(0, 0)", y.worth(0, 0), 9);
    due("worth(1, 7)", y.worth(1, 7), 7);
    LakeChain z = new LakeChain();
    z.lake(0, 30, 10, 0);
    z.weeks(10, 6);
    int at = 0;
    for (int i = 0; i < 10; i++) at = z.node(at, 6, 9);
    z.end(0, 99);
    for (int i = 0; i < 10; i++) z.price(i, 20);
    // 9 come a week, so 9 can be let each week and 30 are there at the end: 6^10 * (10 * 9 * 20 + 99 * 30)
    due("worth(0, 30)", z.worth(0, 30), 60466176L * (10 * 9 * 20 + 99 * 30));
  }

  private static void policy() {
    promise = 11;
    LakeChain x = small();
    due("policy(0, 4, 0)", x.policy(0, 4, 0), 2);
    due("policy(1, 3, 0)", x.policy(1, 3, 0), 2);
    due("policy(1, 2, 0)", x.policy(1, 2, 0), 1);
    due("policy(1, 1, 0): the fish's", x.policy(1, 1, 0), 1);
    due("policy(1, 0, 0)", x.policy(1, 0, 0), 0);
    x.price(1, 0);
    due("policy(1, 3, 0): all as good", x.policy(1, 3, 0), 1);
    due("policy(3, 3, 0), the last week", x.policy(3, 3, 0), -4);
    int[][] bad = {{-1, 0, 0}, {5, 0, 0}, {0, -1, 0}, {0, 5, 0}, {0, 0, -1}, {0, 0, 1}, {3, 0, 1}, {MAX, 0, 0},
      {0, MIN, 0}, {0, 0, MAX}};
    for (int[] b : bad) due("policy(" + java.util.Arrays.toString(b) + ")", x.policy(b[0], b[1], b[2]), -1);
    x.weeks(1, 2);
    x.node(0, 1, 0);
    due("policy(1, 0, 0), rough", x.policy(1, 0, 0), -3);
    due("policy(1, 0, 1), rough", x.policy(1, 0, 1), -1);
    LakeChain y = new LakeChain();
    y.lake(0, 1, 1, 0);
    y.lake(0, 1, 1, 0);
    y.end(0, 1);
    y.node(0, 1, 0);
    // (0, 1) and (1, 1) are worth 2, the others 1
    due("policy(0, 3, 0)", y.policy(0, 3, 0), 0);
    due("policy(0, 3, 1)", y.policy(0, 3, 1), 1);
    y.end(1, 1);
    // (1, 1) and (0, 0), (0, 1) are worth 3, 2, 2
    due("policy(0, 3, 0)", y.policy(0, 3, 0), 1);
    due("policy(0, 3, 1)", y.policy(0, 3, 1), 1);
  }

  private static void water() {
    promise = 12;
    LakeChain x = small();
    due("water(0, 3, 0)", x.water(0, 3, 0), x.worth(0, 4) - x.worth(0, 3));
    due("water(1, 0, 0)", x.water(1, 0, 0), 2);
    due("water(1, 1, 0)", x.water(1, 1, 0), 0);
    x.end(0, 9);
    due("water(3, 3, 0)", x.water(3, 3, 0), 9);
    due("water(3, 4, 0), full", x.water(3, 4, 0), NO);
    int[][] bad = {{-1, 0, 0}, {5, 0, 0}, {0, -1, 0}, {0, 5, 0}, {0, 0, -1}, {0, 0, 1}, {MAX, 0, 0}, {0, MIN, 0}};
    for (int[] b : bad) due("water(" + java.util.Arrays.toString(b) + ")", x.water(b[0], b[1], b[2]), NO);
    x.weeks(2, 2);
    due("water(0, 0, 0), rough", x.water(0, 0, 0), NO);
    LakeChain y = pair();
    y.end(0, 4);
    y.end(1, 7);
    due("water(1, 6, 0)", y.water(1, 6, 0), 4);
    due("water(1, 6, 1)", y.water(1, 6, 1), 7);
    due("water(1, 8, 0), full", y.water(1, 8, 0), NO);
    due("water(1, 8, 1)", y.water(1, 8, 1), 7);
    due("water(1, 3, 1), full", y.water(1, 3, 1), NO);
    due("water(1, 3, 0)", y.water(1, 3, 0), 4);
  }

  private static void needs() {
    promise = 13;
    LakeChain x = pair();
    x.end(0, 3);
    x.end(1, 2);
    // at 1 a state (m, n) is worth 3m + 2n
    due("needs(1, 0)", x.needs(1, 0), 0);
    due("needs(1, -5)", x.needs(1, -5), 0);
    due("needs(1, least)", x.needs(1, Long.MIN_VALUE), 0);
    due("needs(1, 1): (0, 1)", x.needs(1, 1), 1);
    due("needs(1, 3): (1, 0)", x.needs(1, 3), 4);
    due("needs(1, 4): (0, 2) ahead of (1, 1)", x.needs(1, 4), 2);
    due("needs(1, 5): (1, 1) ahead of (0, 3)", x.needs(1, 5), 5);
    due("needs(1, 12): (2, 3)", x.needs(1, 12), 11);
    due("needs(1, 13)", x.needs(1, 13), -6);
    due("needs(1, most)", x.needs(1, Long.MAX_VALUE), -6);
    due("needs(2, 0)", x.needs(2, 0), -1);
    due("needs(-1, 0)", x.needs(-1, 0), -1);
    due("needs(least, 0)", x.needs(MIN, 0), -1);
    x.weeks(1, 1);
    due("needs(0, 0), rough", x.needs(0, 0), -3);
    due("needs(1, 0), rough", x.needs(1, 0), -1);
    LakeChain y = small();
    // from 3, too, 2 can be let, then 1 (dry) or 2 (wet); from 2 only 1
    due("needs(0, 14), times 4", y.needs(0, 14), 3);
    due("needs(0, 15)", y.needs(0, 15), -6);
    LakeChain z = new LakeChain();
    z.lake(0, 30, 0, 0);
    z.lake(0, 30, 0, 0);
    z.end(0, 1);
    z.end(1, 1);
    z.node(0, 1, 0);
    due("needs(0, 60): both full", z.needs(0, 60), 960);
    due("needs(0, 59): (29, 30)", z.needs(0, 59), 929);
  }

  private static void rule() {
    promise = 14;
    LakeChain x = new LakeChain();
    due("rule(0, 0, 0) without a lake", x.rule(0, 0, 0), -1);
    x.lake(1, 9, 4, 2);
    int[][] bad = {{-1, 0, 0}, {1, 0, 0}, {0, -1, 0}, {0, 31, 0}, {0, 0, -1}, {0, 0, 31}, {MAX, 0, 0}, {0, MIN, 0}};
    for (int[] b : bad) due("rule(" + java.util.Arrays.toString(b) + ")", x.rule(b[0], b[1], b[2]), -1);
    x.node(0, 1, 0);
    due("mean(0, 9): 0 and 30 at first: the limit", x.mean(0, 9), 4);
    due("mean(0, 3): what is above the least", x.mean(0, 3), 2);
    due("rule(0, 6, 30)", x.rule(0, 6, 30), 1);
    due("mean(0, 9): beyond 6", x.mean(0, 9), 3);
    due("mean(0, 6): the fish's", x.mean(0, 6), 2);
    due("mean(0, 1): all for the fish", x.mean(0, 1), 1);
    due("rule(0, 0, 3)", x.rule(0, 0, 3), 1);
    due("mean(0, 9): 3 at most", x.mean(0, 9), 3);
    due("rule(0, 30, 0)", x.rule(0, 30, 0), 1);
    due("mean(0, 9): the fish's", x.mean(0, 9), 2);
    x.begin(9);
    due("rule(0, 0, 30) in a run", x.rule(0, 0, 30), 1);
    due("ruled(0)", x.ruled(0), 4);
    due("rule(0, 0, 31)", x.rule(0, 0, 31), -1);
  }

  private static void mean() {
    promise = 15;
    LakeChain x = small();
    x.end(0, 1);
    x.rule(0, 2, 1);
    // from 4: 1 let, 3 (dry) or 4 (wet); 1 let; 3 or 4 at the end
    due("mean(0, 4)", x.mean(0, 4), 4 * 2 + 2 * 3 + 2 * 4);
    due("mean(1, 4)", x.mean(1, 4), 2 * 5);
    due("mean(3, 4)", x.mean(3, 4), 4);
    int[][] bad = {{-1, 0}, {5, 0}, {0, -1}, {0, 5}, {MIN, 0}, {0, MAX}};
    for (int[] b : bad) due("mean(" + java.util.Arrays.toString(b) + ")", x.mean(b[0], b[1]), NO);
    x.weeks(1, 3);
    due("mean(0, 0), rough", x.mean(0, 0), NO);
    x.node(0, 1, 0);
    x.node(0, 2, 4);
    // by weights: 0 once, 4 twice, times 3
    due("mean(0, 0)", x.mean(0, 0), 8);
  }

  private static void worst() {
    promise = 16;
    LakeChain x = small();
    x.end(0, 1);
    x.rule(0, 2, 1);
    due("worst(0, 4)", x.worst(0, 4), 5);
    due("worst(2, 4)", x.worst(2, 4), 5);
    due("worst(3, 4)", x.worst(3, 4), 4);
    due("worst(0, 0), dry: 0 and 1 at the end", x.worst(0, 0), 1);
    int[][] bad = {{-1, 0}, {5, 0}, {0, -1}, {0, 5}, {MIN, 0}, {0, MAX}};
    for (int[] b : bad) due("worst(" + java.util.Arrays.toString(b) + ")", x.worst(b[0], b[1]), NO);
    x.weeks(2, 2);
    due("worst(0, 0), rough", x.worst(0, 0), NO);
  }

  private static void lack() {
    promise = 17;
    LakeChain x = new LakeChain();
    x.lake(2, 6, 2, 1);
    x.weeks(2, 2);
    x.node(0, 1, 0);
    x.node(0, 1, 3);
    x.node(1, 1, 0);
    x.node(1, 1, 4);
    x.node(2, 2, 0);
    x.rule(0, 30, 0);
    // 1 for the fish each week: from 2, dry: 1 (below, though 4 may come then); wet: 4, 3
    due("lack(0, 2)", x.lack(0, 2), 2);
    due("lack(0, 6)", x.lack(0, 6), 0);
    // dry 2, then 1 or 5; wet 5, 4
    due("lack(0, 3)", x.lack(0, 3), 1);
    due("lack(0, 0), wet: 3, 2", x.lack(0, 0), 2);
    due("lack(2, 0): 0", x.lack(2, 0), 1);
    due("lack(1, 1): 0 or 4", x.lack(1, 1), 1);
    due("lack(3, 0): no week is left", x.lack(3, 0), 0);
    int[][] bad = {{-1, 0}, {6, 0}, {0, -1}, {0, 7}, {MIN, 0}, {0, MAX}};
    for (int[] b : bad) due("lack(" + java.util.Arrays.toString(b) + ")", x.lack(b[0], b[1]), -1);
    LakeChain y = pair();
    y.rule(0, 30, 0);
    due("lack(0, 0)", y.lack(0, 0), 0);
    y.weeks(1, 1);
    due("lack(0, 0), rough", y.lack(0, 0), -3);
    due("lack(0, 12), rough", y.lack(0, 12), -1);
    y.node(0, 1, 0);
    due("lack(0, 0), lake 1 below", y.lack(0, 0), 1);
  }

  private static void flood() {
    promise = 18;
    LakeChain x = new LakeChain();
    x.lake(0, 6, 2, 0);
    x.weeks(2, 2);
    x.node(0, 1, 0);
    x.node(0, 1, 3);
    x.node(1, 1, 0);
    x.node(1, 1, 4);
    x.node(2, 2, 0);
    x.rule(0, 30, 0);
    // from 2: 2 or 5 behind week 0 (two cases, one); 2, 6, 5 behind week 1
    int[][] cases = {{0, 1, 3}, {0, 2, 1}, {0, 4, 1}, {0, 5, 0}, {1, 1, 3}, {1, 2, 2}, {1, 5, 1}, {1, 6, 0}};
    for (int[] c : cases) due("flood(2, 0, " + c[1] + ", " + c[0] + ")", x.flood(2, 0, c[1], c[0]), c[2]);
    int[][] bad = {{-1, 0, 0, 0}, {7, 0, 0, 0}, {0, -1, 0, 0}, {0, 1, 0, 0}, {0, 0, -1, 0}, {0, 0, 7, 0},
      {0, 0, 0, -1}, {0, 0, 0, 2}, {MIN, 0, 0, 0}, {0, MAX, 0, 0}, {0, 0, MAX, 0}, {0, 0, 0, MIN}};
    for (int[] b : bad) due("flood(" + java.util.Arrays.toString(b) + ")", x.flood(b[0], b[1], b[2], b[3]), -1);
    x.weeks(3, 2);
    due("flood(0, 0, 0, 2), rough", x.flood(0, 0, 0, 2), -3);
    due("flood(0, 0, 0, 3), rough", x.flood(0, 0, 0, 3), -1);
    LakeChain y = pair();
    y.rule(0, 30, 0);
    y.rule(1, 30, 0);
    // (2, 0): 1 spills from lake 0 into lake 1, that has 3 then
    due("flood(8, 1, 2, 0)", y.flood(8, 1, 2, 0), 1);
    due("flood(4, 1, 2, 0)", y.flood(4, 1, 2, 0), 0);
  }

  private static void cases() {
    promise = 19;
    LakeChain x = small();
    int[] all = {2, 1, 1, 1, 1};
    for (int i = 0; i < all.length; i++) due("cases(" + i + ")", x.cases(i), all[i]);
    for (int i : new int[] {-1, 5, MIN, MAX}) due("cases(" + i + ")", x.cases(i), -1);
    x.weeks(2, 2);
    x.node(0, 2, 0);
    due("cases(0), rough", x.cases(0), -3);
    due("cases(2), rough", x.cases(2), -1);
    x.node(1, 1, 0);
    x.node(1, 1, 0);
    due("cases(0)", x.cases(0), 2);
    due("cases(1)", x.cases(1), 2);
    due("cases(2)", x.cases(2), 1);
  }

  private static void begin() {
    promise = 20;
    LakeChain x = small();
    for (int i : new int[] {-1, 5, MIN, MAX}) due("begin(" + i + ")", x.begin(i), -1);
    due("count(3)", x.count(3), 0);
    due("begin(4)", x.begin(4), 1);
    due("now(1)", x.now(1), 4);
    x.week(2, 1);
    due("begin(5): the run goes on", x.begin(5), -1);
    due("now(0)", x.now(0), 2);
    due("begin(3): it is given up", x.begin(3), 1);
    int[] all = {0, 3, 0, 0, 0, 0, 0};
    for (int i = 0; i < all.length; i++) due("now(" + i + ")", x.now(i), all[i]);
    due("undo()", x.undo(), -6);
    x.stop();
    x.weeks(1, 1);
    due("begin(0), rough", x.begin(0), -3);
    due("begin(5), rough", x.begin(5), -1);
    due("count(3)", x.count(3), 0);
  }

  private static void week() {
    promise = 21;
    LakeChain x = small();
    due("week(1, 0), no run", x.week(1, 0), -6);
    due("week(99, 9), no run", x.week(99, 9), -6);
    x.begin(4);
    int[][] bad = {{1, -1}, {1, 2}, {0, 0}, {3, 0}, {-1, 0}, {17, 0}, {16, 0}, {MIN, 0}, {MAX, 0}, {1, MIN}, {1, MAX}};
    for (int[] b : bad) due("week(" + java.util.Arrays.toString(b) + ")", x.week(b[0], b[1]), -1);
    due("now(6)", x.now(6), 0);
    due("week(1, 1)", x.week(1, 1), 1);
    due("now(0)", x.now(0), 2);
    due("now(1)", x.now(1), 4);
    due("now(3): 3 and 3 in 4", x.now(3), 2);
    due("week(2, 0)", x.week(2, 0), 2);
    due("now(0)", x.now(0), 4);
    due("now(1)", x.now(1), 3);
    due("week(1, 0), the last week", x.week(1, 0), -4);
    due("week(99, 9), the last week", x.week(99, 9), -4);
    x.begin(1);
    due("week(0, 0): the fish's is due", x.week(0, 0), -1);
    due("week(1, 0): below the least, for the fish", x.week(1, 0), 1);
    due("week(1, 0): nothing is there", x.week(1, 0), -1);
    due("week(0, 0)", x.week(0, 0), 0);
    due("now(1)", x.now(1), 1);
  }

  private static void weekOfChain() {
    promise = 21;
    LakeChain x = new LakeChain();
    x.lake(0, 9, 10, 0);
    x.lake(0, 9, 3, 0);
    x.lake(0, 9, 5, 2);
    x.head(0, 9, 2);
    x.head(1, 9, 7);
    x.weeks(1, 2);
    x.price(0, 3);
    x.node(0, 1, 123);
    x.node(0, 1, 900);
    x.begin(945);
    due("week(0x313, 1): 2 of lake 0 come, none spills", x.week(0x313, 0), 3 * (2 * 3 + 1 + 3));
    // 9 - 3 + 1, 4 - 1 + 3 + 2, 5 - 3 + 1 + 3
    due("now(1)", x.now(1), 786);
    due("now(3)", x.now(3), 0);
    due("now(4)", x.now(4), 3);
    due("now(5)", x.now(5), 6);
    x.undo();
    due("week(0x902, 1)", x.week(0x902, 1), 3 * (2 * 9 + 2));
    // 9 come into lake 0; 4 + 9 of lake 1: 4 spill; 5 - 2 + 4
    due("now(1)", x.now(1), 997);
    due("now(3)", x.now(3), 4);
    x.undo();
    due("week(0xA02, 1): only 9 are there", x.week(0xA02, 1), -1);
    due("week(0x001, 1): 2 for the fish", x.week(0x001, 1), -1);
    due("week(0x042, 1): 3 is the limit", x.week(0x042, 1), -1);
    due("week(0x1002, 1): four digits", x.week(0x1002, 1), -1);
    due("week(0x10000002, 1)", x.week(0x10000002, 1), -1);
    due("week(2, 1)", x.week(2, 1), 3 * 2);
    // 9 + 9: 9 spill; 4 + 9: 4 spill; 5 - 2 + 4
    due("now(1)", x.now(1), 997);
    due("now(3)", x.now(3), 13);
  }

  private static void tenWeeks() {
    promise = 24;
    LakeChain x = new LakeChain();
    x.lake(0, 30, 10, 0);
    x.head(0, 30, 9);
    x.weeks(10, 1);
    for (int i = 0; i < 10; i++) x.node(i, 1, 9);
    for (int i = 0; i < 10; i++) x.price(i, i + 1);
    x.begin(30);
    // 9 are let at head 9 and come again; the week's number and 1 is its price
    for (int i = 0; i < 10; i++) due("week(9, 0), the " + i + "th", x.week(9, 0), 81 * (i + 1));
    int[] all = {10, 30, 81 * 55, 0, 90, 90, 10};
    for (int i = 0; i < all.length; i++) due("now(" + i + ")", x.now(i), all[i]);
    due("week(9, 0), the last week", x.week(9, 0), -4);
    for (int i = 8; i >= -1; i--) due("undo()", x.undo(), i);
    due("undo()", x.undo(), -6);
    due("now(1)", x.now(1), 30);
    due("now(2)", x.now(2), 0);
    due("week(10, 0)", x.week(10, 0), 90);
    due("now(1)", x.now(1), 29);
  }

  private static void best() {
    promise = 22;
    LakeChain x = small();
    due("best(0), no run", x.best(0), -6);
    due("best(9), no run", x.best(9), -6);
    x.price(0, 3);
    x.begin(4);
    for (int i : new int[] {-1, 2, MIN, MAX}) due("best(" + i + ")", x.best(i), -1);
    due("now(6)", x.now(6), 0);
    due("best(1)", x.best(1), 6);
    due("now(0)", x.now(0), 2);
    due("now(1)", x.now(1), 4);
    due("now(4)", x.now(4), 2);
    due("best(1): one child alone", x.best(1), -1);
    due("best(0)", x.best(0), 2);
    due("now(2)", x.now(2), 8);
    due("best(0), the last week", x.best(0), -4);
    due("best(9), the last week", x.best(9), -4);
    x.stop();
    x.end(0, 5);
    x.begin(4);
    // let 1: 3, at dry 3 and at wet 4; let 2: 6, at dry 2 and at wet 4: a measure less in one of two cases
    due("best(0)", x.best(0), 6);
    due("best(0): the fish's, a measure is worth 5", x.best(0), 1);
  }

  private static void ruled() {
    promise = 23;
    LakeChain x = small();
    due("ruled(0), no run", x.ruled(0), -6);
    x.rule(0, 3, 30);
    x.begin(4);
    for (int i : new int[] {-1, 2, MIN, MAX}) due("ruled(" + i + ")", x.ruled(i), -1);
    due("ruled(0): 1 beyond 3", x.ruled(0), 1);
    due("now(1)", x.now(1), 3);
    x.rule(0, 0, 30);
    due("ruled(0): the limit", x.ruled(0), 2);
    due("now(1)", x.now(1), 2);
    due("ruled(0), the last week", x.ruled(0), -4);
    due("ruled(9), the last week", x.ruled(9), -4);
  }

  private static void undo() {
    promise = 24;
    LakeChain x = small();
    due("undo(), no run", x.undo(), -6);
    x.begin(4);
    due("undo(), no week", x.undo(), -6);
    due("count(3)", x.count(3), 1);
    x.week(2, 1);
    x.week(1, 0);
    due("undo()", x.undo(), 0);
    int[] behindOne = {2, 4, 2, 1, 2, 3, 1};
    for (int i = 0; i < behindOne.length; i++) due("now(" + i + ")", x.now(i), behindOne[i]);
    due("undo()", x.undo(), -1);
    int[] atFirst = {0, 4, 0, 0, 0, 0, 0};
    for (int i = 0; i < atFirst.length; i++) due("now(" + i + ")", x.now(i), atFirst[i]);
    due("undo()", x.undo(), -6);
    due("week(1, 0)", x.week(1, 0), 1);
    due("now(1)", x.now(1), 3);
    x.begin(2);
    due("undo(), a new run", x.undo(), -6);
    x.week(1, 0);
    x.stop();
    due("undo(), given up", x.undo(), -6);
  }

  private static void stop() {
    promise = 25;
    LakeChain x = small();
    due("stop()", x.stop(), 0);
    x.begin(4);
    x.week(2, 1);
    due("stop()", x.stop(), 1);
    due("stop()", x.stop(), 0);
    due("count(3)", x.count(3), 0);
    due("now(2)", x.now(2), -6);
    due("week(2, 1)", x.week(2, 1), -6);
    due("price(0, 2)", x.price(0, 2), 1);
  }

  private static void now() {
    promise = 26;
    LakeChain x = small();
    due("now(0), no run", x.now(0), -6);
    due("now(7), no run", x.now(7), -6);
    x.begin(4);
    for (int i : new int[] {-1, 7, MIN, MAX}) due("now(" + i + ")", x.now(i), -1);
    x.week(1, 1);
    x.week(2, 0);
    int[] all = {4, 3, 3, 2, 3, 4, 2};
    for (int i = 0; i < all.length; i++) due("now(" + i + ")", x.now(i), all[i]);
    LakeChain y = pair();
    y.begin(11);
    // lets 1 and 0: 2 - 1 + 1; 3 + 1 + 2: 3 spill out of the valley
    due("week(0x10, 0)", y.week(0x10, 0), 1);
    int[] of = {1, 11, 1, 3, 0, 3, 1};
    for (int i = 0; i < of.length; i++) due("now(" + i + ")", y.now(i), of[i]);
    y.undo();
    // lets 0 and 1: 2 + 1: 1 spills into lake 1: 3 - 1 + 2 + 1: 2 spill
    due("week(0x01, 0)", y.week(0x01, 0), 1);
    due("now(3)", y.now(3), 3);
    due("now(4)", y.now(4), 1);
  }

  private static void refusedChangesNothing() {
    promise = 0;
    LakeChain x = small();
    long worth = x.worth(0, 4);
    x.begin(4);
    x.week(2, 0);
    x.lake(0, 1, 1, 0);
    x.head(0, 4, 9);
    x.end(0, 9);
    x.weeks(3, 3);
    x.price(0, 9);
    x.node(0, 1, 0);
    x.begin(99);
    x.week(9, 9);
    x.best(9);
    x.ruled(9);
    int[] counts = {1, 5, 5, 1, 2, 2, 1};
    for (int i = 0; i < counts.length; i++) due("count(" + i + ")", x.count(i), counts[i]);
    int[] nows = {1, 2, 2, 0, 2, 0, 1};
    for (int i = 0; i < nows.length; i++) due("now(" + i + ")", x.now(i), nows[i]);
    due("worth(0, 4)", x.worth(0, 4), worth);
    x.rule(0, 3, 31);
    x.rule(0, 31, 3);
    due("mean(1, 4)", x.mean(1, 4), 4);
  }

  private static void constants() {
    promise = 0;
    due("BAD", LakeChain.BAD, -1);
    due("BUSY", LakeChain.BUSY, -2);
    due("ROUGH", LakeChain.ROUGH, -3);
    due("OVER", LakeChain.OVER, -4);
    due("FULL", LakeChain.FULL, -5);
  }
}
