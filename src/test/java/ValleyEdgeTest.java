/** The boundary cases of promises 1 to 9, a test for each sentence of the document that names one. */
public final class ValleyEdgeTest {
  private static final int MIN = Edges.MIN, MAX = Edges.MAX;
  private static final int BAD = Edges.BAD, BUSY = Edges.BUSY, ROUGH = Edges.ROUGH, FULL = Edges.FULL;

  public static void main(String[] args) throws IllegalAccessException {
    Edges.go(ValleyEdgeTest.class, 1, 9);
  }

  private static void due(String call, long got, long want) {
    Edges.due(call, got, want);
  }

  /** A desk with a run: one lake (0 .. 4, limit 2), one week, one child. */
  private static LakeChain running() {
    LakeChain x = Edges.one(0, 4, 2, 0, 0);
    x.begin(4);
    return x;
  }

  // ---- 1 a new object

  static void promise01_noLakes() {
    LakeChain x = new LakeChain();
    due("count(0)", x.count(0), 0);
    due("head(0, 0, 1)", x.head(0, 0, 1), BAD);
    due("end(0, 0)", x.end(0, 0), BAD);
    due("rule(0, 0, 0)", x.rule(0, 0, 0), BAD);
    due("policy(0, 0, 0)", x.policy(0, 0, 0), BAD);
    due("water(0, 0, 0)", x.water(0, 0, 0), Edges.NO);
    due("flood(0, 0, 0, 0)", x.flood(0, 0, 0, 0), BAD);
    due("lake(0, 0, 0, 0), the first one", x.lake(0, 0, 0, 0), 0);
  }

  static void promise01_oneWeek() {
    LakeChain x = new LakeChain();
    due("count(4)", x.count(4), 1);
    x.lake(0, 1, 1, 0);
    due("node(0, 1, 0)", x.node(0, 1, 0), 1);
    due("node(1, 1, 0), below the last week", x.node(1, 1, 0), BAD);
    due("flood(0, 0, 0, 0)", x.flood(0, 0, 0, 0), 0);
    due("flood(0, 0, 0, 1)", x.flood(0, 0, 0, 1), BAD);
  }

  static void promise01_onePart() {
    LakeChain x = new LakeChain();
    due("count(5)", x.count(5), 1);
    due("about(0, 1)", x.about(0, 1), 1);
    due("node(0, 2, 0)", x.node(0, 2, 0), BAD);
    due("node(0, 1, 0)", x.node(0, 1, 0), 1);
  }

  static void promise01_onlyTheBeginning() {
    LakeChain x = new LakeChain();
    due("count(1)", x.count(1), 1);
    due("about(0, 3)", x.about(0, 3), 0);
    due("about(0, 4)", x.about(0, 4), 0);
    due("about(1, 0)", x.about(1, 0), -2);
    due("cases(1)", x.cases(1), BAD);
    due("needs(1, 0)", x.needs(1, 0), BAD);
    due("node(1, 1, 0)", x.node(1, 1, 0), BAD);
  }

  static void promise01_notWhole() {
    LakeChain x = new LakeChain();
    due("count(6)", x.count(6), 0);
    due("begin(0)", x.begin(0), ROUGH);
    due("cases(0)", x.cases(0), ROUGH);
    due("needs(0, 0)", x.needs(0, 0), ROUGH);
    due("lack(0, 0)", x.lack(0, 0), ROUGH);
    due("worth(0, 0)", x.worth(0, 0), Edges.NO);
    due("mean(0, 0)", x.mean(0, 0), Edges.NO);
    due("worst(0, 0)", x.worst(0, 0), Edges.NO);
  }

  static void promise01_noRun() {
    LakeChain x = new LakeChain();
    due("count(3)", x.count(3), 0);
    due("week(0, 0)", x.week(0, 0), Edges.NONE);
    due("best(0)", x.best(0), Edges.NONE);
    due("ruled(0)", x.ruled(0), Edges.NONE);
    due("undo()", x.undo(), Edges.NONE);
    due("stop()", x.stop(), 0);
    due("now(0)", x.now(0), Edges.NONE);
  }

  static void promise01_allMemoryIsTheObjectsOwn() {
    LakeChain x = running();
    LakeChain y = new LakeChain();
    Edges.dueCounts(y, 0, 1, 1, 0, 1, 1, 0);
    y.lake(0, 9, 5, 0);
    y.weeks(3, 3);
    due("end(0, 7) of another", y.end(0, 7), 0);
    due("rule(0, 9, 0) of another", y.rule(0, 9, 0), 1);
    Edges.dueCounts(x, 1, 2, 5, 1, 1, 1, 1);
    due("worth(1, 4)", x.worth(1, 4), 0);
    due("mean(0, 4)", x.mean(0, 4), 2);
  }

  static void promise01_the512thCall() {
    LakeChain x = new LakeChain();
    x.lake(0, 4, 2, 0);
    x.node(0, 1, 0);
    for (int i = 2; i < 510; i += 2) {
      x.price(0, i % 20);
      x.worth(0, 4);
    }
    due("price(0, 13), the 511th", x.price(0, 13), 8);
    due("worth(0, 4), the 512th", x.worth(0, 4), 26);
  }

  // ---- 2 lake

  static void promise02_itsNumber() {
    LakeChain x = new LakeChain();
    for (int i = 0; i < 3; i++) due("lake(0, 1, 1, 1)", x.lake(0, 1, 1, 1), i);
  }

  static void promise02_leastFrom0() {
    due("lake(-1, 5, 1, 1)", new LakeChain().lake(-1, 5, 1, 1), BAD);
    due("lake(0, 5, 1, 1)", new LakeChain().lake(0, 5, 1, 1), 0);
    due("lake(least int, 5, 1, 1)", new LakeChain().lake(MIN, 5, 1, 1), BAD);
  }

  static void promise02_leastAtMostGreatest() {
    due("lake(5, 5, 1, 1)", new LakeChain().lake(5, 5, 1, 1), 0);
    due("lake(6, 5, 1, 1)", new LakeChain().lake(6, 5, 1, 1), BAD);
    due("lake(30, 30, 1, 1)", new LakeChain().lake(30, 30, 1, 1), 0);
    due("lake(1, 0, 1, 1)", new LakeChain().lake(1, 0, 1, 1), BAD);
    due("lake(greatest int, 5, 1, 1)", new LakeChain().lake(MAX, 5, 1, 1), BAD);
  }

  static void promise02_greatest0To30() {
    due("lake(0, 0, 1, 1)", new LakeChain().lake(0, 0, 1, 1), 0);
    due("lake(0, -1, 1, 1)", new LakeChain().lake(0, -1, 1, 1), BAD);
    due("lake(-1, -1, 1, 1)", new LakeChain().lake(-1, -1, 1, 1), BAD);
    due("lake(0, 30, 1, 1)", new LakeChain().lake(0, 30, 1, 1), 0);
    due("lake(0, 31, 1, 1)", new LakeChain().lake(0, 31, 1, 1), BAD);
    due("lake(31, 31, 1, 1)", new LakeChain().lake(31, 31, 1, 1), BAD);
    due("lake(0, greatest int, 1, 1)", new LakeChain().lake(0, MAX, 1, 1), BAD);
  }

  static void promise02_limit0To10() {
    due("lake(0, 5, -1, 1)", new LakeChain().lake(0, 5, -1, 1), BAD);
    due("lake(0, 5, 0, 1)", new LakeChain().lake(0, 5, 0, 1), 0);
    due("lake(0, 5, 10, 1)", new LakeChain().lake(0, 5, 10, 1), 0);
    due("lake(0, 5, 11, 1)", new LakeChain().lake(0, 5, 11, 1), BAD);
    due("lake(0, 5, greatest int, 1)", new LakeChain().lake(0, 5, MAX, 1), BAD);
  }

  static void promise02_fish0To5() {
    due("lake(0, 5, 1, -1)", new LakeChain().lake(0, 5, 1, -1), BAD);
    due("lake(0, 5, 1, 0)", new LakeChain().lake(0, 5, 1, 0), 0);
    due("lake(0, 5, 1, 5)", new LakeChain().lake(0, 5, 1, 5), 0);
    due("lake(0, 5, 1, 6)", new LakeChain().lake(0, 5, 1, 6), BAD);
    due("lake(0, 5, 1, least int)", new LakeChain().lake(0, 5, 1, MIN), BAD);
  }

  static void promise02_productAtMost1000() {
    LakeChain x = new LakeChain();
    x.lake(0, 9, 1, 1);
    x.lake(0, 3, 1, 1);
    due("lake(0, 25, 1, 1): 1040", x.lake(0, 25, 1, 1), BAD);
    due("lake(0, 24, 1, 1): 1000", x.lake(0, 24, 1, 1), 2);
    due("count(2)", x.count(2), 1000);
  }

  static void promise02_product1001IsAboveIt() {
    LakeChain x = new LakeChain();
    x.lake(0, 6, 1, 1);
    x.lake(0, 10, 1, 1);
    due("lake(0, 12, 1, 1): 7 * 11 * 13", x.lake(0, 12, 1, 1), BAD);
    due("count(0)", x.count(0), 2);
    due("count(2)", x.count(2), 77);
  }

  static void promise02_productOfThreeIsNotAsked() {
    LakeChain x = new LakeChain();
    for (int i = 0; i < 3; i++) x.lake(0, 9, 1, 1);
    due("lake(0, 30, 1, 1): 31000, but there are 3", x.lake(0, 30, 1, 1), FULL);
  }

  static void promise02_fullIfThereAre3() {
    LakeChain x = new LakeChain();
    for (int i = 0; i < 3; i++) x.lake(0, 0, 0, 0);
    due("lake(0, 0, 0, 0), a fourth", x.lake(0, 0, 0, 0), FULL);
    due("count(0)", x.count(0), 3);
    due("count(2)", x.count(2), 1);
  }

  static void promise02_fullIfThereAreNodes() {
    LakeChain x = new LakeChain();
    x.node(0, 1, 0);
    due("lake(0, 1, 1, 1)", x.lake(0, 1, 1, 1), FULL);
    due("count(0)", x.count(0), 0);
    x.weeks(1, 1);
    due("lake(0, 1, 1, 1), the nodes are gone", x.lake(0, 1, 1, 1), 0);
  }

  static void promise02_badAheadOfFull() {
    LakeChain x = new LakeChain();
    for (int i = 0; i < 3; i++) x.lake(0, 1, 1, 1);
    due("lake(2, 1, 1, 1), a fourth", x.lake(2, 1, 1, 1), BAD);
    due("lake(0, 31, 1, 1), a fourth", x.lake(0, 31, 1, 1), BAD);
    due("lake(0, 1, 11, 1), a fourth", x.lake(0, 1, 11, 1), BAD);
    due("lake(0, 1, 1, 6), a fourth", x.lake(0, 1, 1, 6), BAD);
  }

  static void promise02_badByProductAheadOfFullByNodes() {
    LakeChain x = Edges.chain(0, 30, 30);
    due("lake(0, 1, 1, 1): 1922", x.lake(0, 1, 1, 1), BAD);
    due("lake(0, 0, 1, 1): 961", x.lake(0, 0, 1, 1), FULL);
  }

  static void promise02_busyAheadOfFull() {
    LakeChain x = running();
    due("lake(0, 1, 1, 1) in a run", x.lake(0, 1, 1, 1), BUSY);
    x.stop();
    due("lake(0, 1, 1, 1) behind it", x.lake(0, 1, 1, 1), FULL);
    LakeChain y = Edges.chain(0, 1, 1, 1);
    y.begin(0);
    due("lake(0, 30, 1, 1) in a run of 3", y.lake(0, 30, 1, 1), BUSY);
  }

  static void promise02_badAheadOfBusy() {
    LakeChain x = running();
    due("lake(0, 31, 1, 1)", x.lake(0, 31, 1, 1), BAD);
    LakeChain y = Edges.chain(0, 30, 30);
    y.begin(0);
    due("lake(0, 1, 1, 1): 1922", y.lake(0, 1, 1, 1), BAD);
  }

  static void promise02_refusedChangesNothing() {
    LakeChain x = new LakeChain();
    x.lake(0, 4, 1, 1);
    x.lake(9, 4, 1, 1);
    x.lake(0, 31, 1, 1);
    x.node(0, 1, 0);
    x.lake(0, 4, 1, 1);
    Edges.dueCounts(x, 1, 2, 5, 0, 1, 1, 1);
    due("end(1, 1): no such lake", x.end(1, 1), BAD);
  }

  static void promise02_aLakeMoreWhenWorthsWereAsked() {
    LakeChain x = Edges.chain(0, 2);
    due("worth(0, 2)", x.worth(0, 2), 2);
    x.weeks(1, 1);
    due("lake(0, 3, 10, 0)", x.lake(0, 3, 10, 0), 1);
    x.node(0, 1, 0);
    due("worth(0, 11): 2 and 3", x.worth(0, 11), 5);
    x.weeks(1, 1);
    due("lake(0, 4, 10, 0)", x.lake(0, 4, 10, 0), 2);
    x.node(0, 1, 0);
    due("worth(0, 59): 2, 3 and 4", x.worth(0, 59), 9);
    due("policy(0, 59, 2)", x.policy(0, 59, 2), 4);
  }

  // ---- 3 head

  static void promise03_noSuchLake() {
    LakeChain x = Edges.one(0, 4, 2, 0, 0);
    for (int lake : new int[] {-1, 1, 2, 3, MIN, MAX}) due("head(" + lake + ", 0, 1)", x.head(lake, 0, 1), BAD);
    due("head(0, 0, 1)", x.head(0, 0, 1), 1);
  }

  static void promise03_measure0ToGreatest() {
    LakeChain x = Edges.one(0, 4, 2, 0, 0);
    for (int m : new int[] {-1, 5, 30, 31, MIN, MAX}) due("head(0, " + m + ", 1)", x.head(0, m, 1), BAD);
    due("head(0, 0, 1)", x.head(0, 0, 1), 1);
    due("head(0, 4, 1)", x.head(0, 4, 1), 1);
    LakeChain y = Edges.one(0, 30, 2, 0, 0);
    due("head(0, 30, 2)", y.head(0, 30, 2), 1);
    due("head(0, 31, 2)", y.head(0, 31, 2), BAD);
    LakeChain z = Edges.one(0, 0, 2, 0, 0);
    due("head(0, 0, 9)", z.head(0, 0, 9), 1);
    due("head(0, 1, 9)", z.head(0, 1, 9), BAD);
  }

  static void promise03_head0To9() {
    LakeChain x = Edges.one(0, 0, 2, 0, 0);
    for (int h : new int[] {-1, 10, MIN, MAX}) due("head(0, 0, " + h + ")", x.head(0, 0, h), BAD);
    due("head(0, 0, 0)", x.head(0, 0, 0), 1);
    due("head(0, 0, 9)", x.head(0, 0, 9), 0);
    due("head(0, 0, 5)", x.head(0, 0, 5), 9);
  }

  static void promise03_1AtFirst() {
    LakeChain x = Edges.one(0, 30, 2, 0, 0);
    for (int m = 0; m <= 30; m++) due("head(0, " + m + ", 1)", x.head(0, m, 1), 1);
  }

  static void promise03_notLessThanAtALesserMeasure() {
    LakeChain x = Edges.one(0, 4, 2, 0, 0);
    x.head(0, 4, 5);
    x.head(0, 3, 5);
    due("head(0, 4, 4): 3 has 5", x.head(0, 4, 4), BAD);
    due("head(0, 4, 5): as much", x.head(0, 4, 5), 5);
    due("head(0, 1, 0): 0 has 1", x.head(0, 1, 0), BAD);
    due("head(0, 0, 0): there is no lesser one", x.head(0, 0, 0), 1);
    due("head(0, 1, 0)", x.head(0, 1, 0), 1);
  }

  static void promise03_notMoreThanAtAGreaterMeasure() {
    LakeChain x = Edges.one(0, 4, 2, 0, 0);
    due("head(0, 3, 2): 4 has 1", x.head(0, 3, 2), BAD);
    due("head(0, 4, 2): there is no greater one", x.head(0, 4, 2), 1);
    due("head(0, 3, 3): 4 has 2", x.head(0, 3, 3), BAD);
    due("head(0, 3, 2): as much", x.head(0, 3, 2), 1);
    due("head(0, 0, 2): 1 has 1", x.head(0, 0, 2), BAD);
  }

  static void promise03_farMeasuresCountToo() {
    LakeChain x = Edges.one(0, 4, 2, 0, 0);
    x.head(0, 4, 9);
    due("head(0, 0, 9): 1 to 3 have 1", x.head(0, 0, 9), BAD);
    due("head(0, 4, 0): 0 to 3 have 1", x.head(0, 4, 0), BAD);
    due("head(0, 2, 2): 3 has 1, though 4 has 9", x.head(0, 2, 2), BAD);
  }

  static void promise03_eachLakeItsOwn() {
    LakeChain x = Edges.chain(0, 2, 2);
    due("head(1, 2, 9)", x.head(1, 2, 9), 1);
    due("head(0, 2, 1)", x.head(0, 2, 1), 1);
    due("head(0, 1, 2): 2 has 1 here", x.head(0, 1, 2), BAD);
    due("head(1, 1, 2)", x.head(1, 1, 2), 1);
  }

  static void promise03_busy() {
    LakeChain x = running();
    due("head(0, 4, 1) in a run", x.head(0, 4, 1), BUSY);
    x.week(1, 0);
    due("head(0, 4, 1) in the last week", x.head(0, 4, 1), BUSY);
    x.stop();
    due("head(0, 4, 1) behind it", x.head(0, 4, 1), 1);
  }

  static void promise03_badAheadOfBusy() {
    LakeChain x = running();
    due("head(1, 0, 1)", x.head(1, 0, 1), BAD);
    due("head(0, 5, 1)", x.head(0, 5, 1), BAD);
    due("head(0, 4, 10)", x.head(0, 4, 10), BAD);
    due("head(0, 3, 2): 4 has 1", x.head(0, 3, 2), BAD);
    due("head(0, 1, 0): 0 has 1", x.head(0, 1, 0), BAD);
  }

  static void promise03_refusedChangesNothing() {
    LakeChain x = Edges.one(0, 4, 2, 0, 0);
    x.head(0, 3, 9);
    x.head(0, 1, 0);
    x.head(0, 4, 10);
    x.begin(4);
    x.head(0, 4, 9);
    x.stop();
    for (int m = 0; m <= 4; m++) due("head(0, " + m + ", 1)", x.head(0, m, 1), 1);
  }

  static void promise03_worthsFollow() {
    LakeChain x = Edges.one(0, 4, 2, 0, 0);
    due("worth(0, 4)", x.worth(0, 4), 2);
    x.head(0, 4, 9);
    due("worth(0, 4)", x.worth(0, 4), 18);
    due("worth(0, 3)", x.worth(0, 3), 2);
  }

  // ---- 4 end

  static void promise04_noSuchLake() {
    LakeChain x = Edges.chain(0, 2, 2);
    for (int lake : new int[] {-1, 2, 3, MIN, MAX}) due("end(" + lake + ", 0)", x.end(lake, 0), BAD);
    due("end(1, 0)", x.end(1, 0), 0);
  }

  static void promise04_end0To99() {
    LakeChain x = Edges.one(0, 4, 2, 0, 0);
    for (int e : new int[] {-1, 100, MIN, MAX}) due("end(0, " + e + ")", x.end(0, e), BAD);
    due("end(0, 99)", x.end(0, 99), 0);
    due("end(0, 0)", x.end(0, 0), 99);
  }

  static void promise04_0AtFirst() {
    LakeChain x = Edges.chain(0, 1, 1, 1);
    due("worth(1, 7)", x.worth(1, 7), 0);
    for (int i = 0; i < 3; i++) due("end(" + i + ", 5)", x.end(i, 5), 0);
  }

  static void promise04_eachLakeItsOwn() {
    LakeChain x = Edges.chain(0, 1, 1);
    due("end(1, 9)", x.end(1, 9), 0);
    due("end(0, 4)", x.end(0, 4), 0);
    due("end(1, 9)", x.end(1, 9), 9);
    due("worth(1, 1): (0, 1)", x.worth(1, 1), 9);
    due("worth(1, 2): (1, 0)", x.worth(1, 2), 4);
  }

  static void promise04_busy() {
    LakeChain x = running();
    due("end(0, 1) in a run", x.end(0, 1), BUSY);
    x.stop();
    due("end(0, 1) behind it", x.end(0, 1), 0);
  }

  static void promise04_badAheadOfBusy() {
    LakeChain x = running();
    due("end(0, 100)", x.end(0, 100), BAD);
    due("end(1, 1)", x.end(1, 1), BAD);
  }

  static void promise04_refusedChangesNothing() {
    LakeChain x = running();
    x.end(0, 100);
    x.end(0, -1);
    x.end(0, 50);
    due("worth(1, 4)", x.worth(1, 4), 0);
    x.stop();
    due("end(0, 1)", x.end(0, 1), 0);
  }

  // ---- 5 weeks

  static void promise05_w1To10() {
    LakeChain x = new LakeChain();
    for (int w : new int[] {0, 11, -1, MIN, MAX}) due("weeks(" + w + ", 1)", x.weeks(w, 1), BAD);
    due("weeks(10, 1)", x.weeks(10, 1), 1);
    due("count(4)", x.count(4), 10);
    due("weeks(1, 1)", x.weeks(1, 1), 1);
    due("count(4)", x.count(4), 1);
  }

  static void promise05_d1To6() {
    LakeChain x = new LakeChain();
    for (int d : new int[] {0, 7, -1, MIN, MAX}) due("weeks(1, " + d + ")", x.weeks(1, d), BAD);
    due("weeks(1, 6)", x.weeks(1, 6), 1);
    due("count(5)", x.count(5), 6);
    due("weeks(1, 1)", x.weeks(1, 1), 1);
    due("count(5)", x.count(5), 1);
  }

  static void promise05_nodesGo() {
    LakeChain x = Edges.fork();
    due("weeks(2, 2), as they were", x.weeks(2, 2), 1);
    Edges.dueCounts(x, 1, 1, 10, 0, 2, 2, 0);
    due("about(0, 3)", x.about(0, 3), 0);
    due("about(0, 4)", x.about(0, 4), 0);
    for (int n = 1; n <= 5; n++) due("about(" + n + ", 0)", x.about(n, 0), -2);
    due("worth(1, 0)", x.worth(1, 0), Edges.NO);
    due("node(1, 1, 0)", x.node(1, 1, 0), BAD);
  }

  static void promise05_newNodesAreNew() {
    LakeChain x = Edges.fork();
    x.weeks(3, 4);
    due("node(0, 3, 8)", x.node(0, 3, 8), 1);
    int[] wants = {0, 3, 0, 0, 0, 8};
    for (int i = 0; i < wants.length; i++) due("about(1, " + i + ")", x.about(1, i), wants[i]);
    due("node(1, 4, 0)", x.node(1, 4, 0), 2);
    due("about(2, 0)", x.about(2, 0), 1);
    due("about(2, 2)", x.about(2, 2), 1);
  }

  static void promise05_allElseStays() {
    LakeChain x = Edges.one(0, 4, 2, 0, 0);
    x.head(0, 4, 3);
    x.end(0, 5);
    x.price(0, 7);
    x.price(9, 8);
    x.rule(0, 3, 30);
    x.weeks(1, 1);
    due("count(0)", x.count(0), 1);
    due("count(2)", x.count(2), 5);
    x.node(0, 1, 0);
    due("mean(0, 4): 1 at head 3, price 7; 3 at end 5", x.mean(0, 4), 36);
    due("price(9, 1)", x.price(9, 1), 8);
  }

  static void promise05_busy() {
    LakeChain x = running();
    due("weeks(1, 1) in a run", x.weeks(1, 1), BUSY);
    Edges.dueCounts(x, 1, 2, 5, 1, 1, 1, 1);
    x.stop();
    due("weeks(1, 1) behind it", x.weeks(1, 1), 1);
  }

  static void promise05_badAheadOfBusy() {
    LakeChain x = running();
    due("weeks(0, 1)", x.weeks(0, 1), BAD);
    due("weeks(1, 7)", x.weeks(1, 7), BAD);
  }

  static void promise05_refusedChangesNothing() {
    LakeChain x = Edges.fork();
    x.weeks(3, 0);
    x.weeks(0, 3);
    x.weeks(11, 6);
    Edges.dueCounts(x, 1, 6, 10, 0, 2, 2, 1);
  }

  // ---- 6 price

  static void promise06_week0To9() {
    LakeChain x = new LakeChain();
    for (int week : new int[] {-1, 10, MIN, MAX}) due("price(" + week + ", 1)", x.price(week, 1), BAD);
    due("price(0, 2)", x.price(0, 2), 1);
    due("price(9, 3), beyond W", x.price(9, 3), 1);
    due("price(9, 1)", x.price(9, 1), 3);
  }

  static void promise06_price0To20() {
    LakeChain x = new LakeChain();
    for (int p : new int[] {-1, 21, MIN, MAX}) due("price(0, " + p + ")", x.price(0, p), BAD);
    due("price(0, 20)", x.price(0, 20), 1);
    due("price(0, 0)", x.price(0, 0), 20);
    due("price(0, 1)", x.price(0, 1), 0);
  }

  static void promise06_1AtFirst() {
    LakeChain x = new LakeChain();
    for (int week = 0; week < 10; week++) due("price(" + week + ", 1)", x.price(week, 1), 1);
  }

  static void promise06_eachWeekItsOwn() {
    LakeChain x = new LakeChain();
    for (int week = 0; week < 10; week++) x.price(week, 10 + week);
    for (int week = 0; week < 10; week++) due("price(" + week + ", 0)", x.price(week, 0), 10 + week);
  }

  static void promise06_beyondTheLastWeekNothingEarns() {
    LakeChain x = Edges.one(0, 4, 2, 0, 0);
    x.price(1, 20);
    due("worth(0, 4)", x.worth(0, 4), 2);
    x.price(0, 20);
    due("worth(0, 4)", x.worth(0, 4), 40);
    x.price(0, 0);
    due("worth(0, 4)", x.worth(0, 4), 0);
  }

  static void promise06_busy() {
    LakeChain x = running();
    due("price(0, 1) in a run", x.price(0, 1), BUSY);
    due("price(9, 1) in a run", x.price(9, 1), BUSY);
    x.stop();
    due("price(0, 2) behind it", x.price(0, 2), 1);
  }

  static void promise06_badAheadOfBusy() {
    LakeChain x = running();
    due("price(10, 1)", x.price(10, 1), BAD);
    due("price(0, 21)", x.price(0, 21), BAD);
  }

  static void promise06_refusedChangesNothing() {
    LakeChain x = running();
    x.price(0, 21);
    x.price(0, -1);
    x.price(0, 9);
    due("week(2, 0)", x.week(2, 0), 2);
    x.stop();
    due("price(0, 1)", x.price(0, 1), 1);
  }

  // ---- 7 node

  static void promise07_itsNumber() {
    LakeChain x = new LakeChain();
    x.weeks(2, 6);
    for (int i = 1; i <= 6; i++) due("node(0, 1, 0)", x.node(0, 1, 0), i);
    due("node(6, 1, 0)", x.node(6, 1, 0), 7);
    due("node(1, 1, 0)", x.node(1, 1, 0), 8);
  }

  static void promise07_noSuchParent() {
    LakeChain x = new LakeChain();
    x.weeks(2, 2);
    for (int parent : new int[] {-1, 1, 80, 81, MIN, MAX}) {
      due("node(" + parent + ", 1, 0)", x.node(parent, 1, 0), BAD);
    }
    due("node(0, 1, 0)", x.node(0, 1, 0), 1);
    due("node(1, 1, 0)", x.node(1, 1, 0), 2);
    due("node(3, 1, 0)", x.node(3, 1, 0), BAD);
  }

  static void promise07_weight1ToD() {
    for (int d = 1; d <= 6; d++) {
      LakeChain x = new LakeChain();
      x.weeks(1, d);
      for (int weight : new int[] {0, -1, d + 1, MIN, MAX}) {
        due("node(0, " + weight + ", 0), D " + d, x.node(0, weight, 0), BAD);
      }
      due("node(0, " + d + ", 0), D " + d, x.node(0, d, 0), 1);
    }
  }

  static void promise07_weightsBeyondD() {
    LakeChain x = new LakeChain();
    x.weeks(2, 6);
    due("node(0, 4, 0)", x.node(0, 4, 0), 1);
    due("node(0, 3, 0): 7", x.node(0, 3, 0), BAD);
    due("node(0, 2, 0): 6", x.node(0, 2, 0), 2);
    due("node(0, 1, 0): 7", x.node(0, 1, 0), BAD);
    due("node(1, 6, 0): of another parent", x.node(1, 6, 0), 3);
    due("node(1, 1, 0): 7", x.node(1, 1, 0), BAD);
    due("node(0, greatest int, 0)", x.node(0, MAX, 0), BAD);
  }

  static void promise07_parentOfTheLastWeek() {
    LakeChain x = new LakeChain();
    x.weeks(2, 1);
    x.node(0, 1, 0);
    due("node(1, 1, 0), of week 0", x.node(1, 1, 0), 2);
    due("node(2, 1, 0), of week 1", x.node(2, 1, 0), BAD);
    LakeChain y = new LakeChain();
    y.weeks(10, 1);
    for (int i = 0; i < 10; i++) due("node(" + i + ", 1, 0)", y.node(i, 1, 0), i + 1);
    due("node(10, 1, 0), of week 9", y.node(10, 1, 0), BAD);
  }

  static void promise07_inflowsWithoutALake() {
    LakeChain x = new LakeChain();
    due("node(0, 1, 1)", x.node(0, 1, 1), BAD);
    due("node(0, 1, -1)", x.node(0, 1, -1), BAD);
    due("node(0, 1, 0)", x.node(0, 1, 0), 1);
  }

  static void promise07_inflowsOfLakesThatThereAreNot() {
    int past = 1;
    for (int lakes = 1; lakes <= 3; lakes++) {
      past *= 10;
      LakeChain x = new LakeChain();
      for (int i = 0; i < lakes; i++) x.lake(0, 1, 1, 0);
      x.weeks(1, 2);
      due("node(0, 1, " + past + "), lakes: " + lakes, x.node(0, 1, past), BAD);
      due("node(0, 1, greatest int)", x.node(0, 1, MAX), BAD);
      due("node(0, 1, " + (past - 1) + ")", x.node(0, 1, past - 1), 1);
      for (int i = 0; i < 3; i++) due("about(1, " + (5 + i) + ")", x.about(1, 5 + i), i < lakes ? 9 : -2);
    }
  }

  static void promise07_inflowsNotBelow0() {
    LakeChain x = new LakeChain();
    x.lake(0, 1, 1, 0);
    due("node(0, 1, -1)", x.node(0, 1, -1), BAD);
    due("node(0, 1, least int)", x.node(0, 1, MIN), BAD);
    due("node(0, 1, 0)", x.node(0, 1, 0), 1);
    due("about(1, 5)", x.about(1, 5), 0);
  }

  static void promise07_lake0sDigitIsTheHighest() {
    LakeChain x = new LakeChain();
    for (int i = 0; i < 3; i++) x.lake(0, 1, 1, 0);
    x.weeks(1, 3);
    x.node(0, 1, 7);
    x.node(0, 1, 120);
    x.node(0, 1, 900);
    int[][] wants = {{0, 0, 7}, {1, 2, 0}, {9, 0, 0}};
    for (int n = 0; n < 3; n++) {
      for (int i = 0; i < 3; i++) due("about(" + (n + 1) + ", " + (5 + i) + ")", x.about(n + 1, 5 + i), wants[n][i]);
    }
  }

  /** 80 nodes in a tree that takes more. */
  private static LakeChain full() {
    LakeChain x = new LakeChain();
    x.lake(0, 1, 1, 0);
    x.weeks(10, 6);
    for (int i = 0; i < 80; i++) x.node(i / 6, 1, 0);
    return x;
  }

  static void promise07_atMost80() {
    LakeChain x = new LakeChain();
    x.weeks(10, 6);
    for (int i = 0; i < 80; i++) due("node(" + i / 6 + ", 1, 0)", x.node(i / 6, 1, 0), i + 1);
    due("node(13, 1, 0), an 81st", x.node(13, 1, 0), FULL);
    due("count(1)", x.count(1), 81);
    due("about(81, 0)", x.about(81, 0), -2);
  }

  static void promise07_badAheadOfFull() {
    LakeChain x = full();
    due("node(81, 1, 0)", x.node(81, 1, 0), BAD);
    due("node(-1, 1, 0)", x.node(-1, 1, 0), BAD);
    due("node(13, 0, 0)", x.node(13, 0, 0), BAD);
    due("node(13, 7, 0)", x.node(13, 7, 0), BAD);
    due("node(13, 5, 0): 2 are below it", x.node(13, 5, 0), BAD);
    due("node(13, 1, 10)", x.node(13, 1, 10), BAD);
    due("node(0, 1, 0): 6 are below it", x.node(0, 1, 0), BAD);
    due("node(13, 4, 9)", x.node(13, 4, 9), FULL);
  }

  static void promise07_fullNoMoreBehindWeeks() {
    LakeChain x = full();
    x.weeks(10, 6);
    for (int i = 0; i < 80; i++) due("node(" + i / 6 + ", 1, 1)", x.node(i / 6, 1, 1), i + 1);
    due("node(80, 1, 0), an 81st", x.node(80, 1, 0), FULL);
  }

  static void promise07_badAheadOfBusy() {
    // a run wants a whole tree, and that has no room for a weight more: so it is BAD for each parent
    LakeChain x = Edges.fork();
    x.begin(0);
    for (int parent = -1; parent <= 6; parent++) {
      due("node(" + parent + ", 1, 0) in a run", x.node(parent, 1, 0), BAD);
    }
    due("count(1)", x.count(1), 6);
  }

  static void promise07_refusedChangesNothing() {
    LakeChain x = full();
    x.node(13, 1, 0);
    x.node(13, 7, 0);
    x.node(13, 1, 99);
    due("about(13, 3)", x.about(13, 3), 2);
    due("about(13, 4)", x.about(13, 4), 2);
    LakeChain y = new LakeChain();
    y.weeks(1, 2);
    y.node(0, 3, 0);
    y.node(0, 1, 1);
    due("about(0, 4)", y.about(0, 4), 0);
    due("node(0, 2, 0)", y.node(0, 2, 0), 1);
  }

  // ---- 8 about

  static void promise08_ofTheBeginning() {
    LakeChain x = new LakeChain();
    for (int i = 0; i < 3; i++) x.lake(0, 1, 1, 0);
    x.weeks(4, 6);
    int[] wants = {-1, 6, -1, 0, 0, 0, 0, 0};
    for (int i = 0; i < wants.length; i++) due("about(0, " + i + ")", x.about(0, i), wants[i]);
    x.node(0, 2, 999);
    x.node(0, 3, 999);
    int[] then = {-1, 6, -1, 2, 5, 0, 0, 0};
    for (int i = 0; i < then.length; i++) due("about(0, " + i + ")", x.about(0, i), then[i]);
  }

  static void promise08_weightOfTheBeginningIsD() {
    LakeChain x = new LakeChain();
    for (int d = 1; d <= 6; d++) {
      x.weeks(1, d);
      due("about(0, 1)", x.about(0, 1), d);
    }
  }

  static void promise08_weeksOfNodes() {
    LakeChain x = new LakeChain();
    x.weeks(10, 1);
    for (int i = 0; i < 10; i++) x.node(i, 1, 0);
    for (int i = 0; i <= 10; i++) due("about(" + i + ", 2)", x.about(i, 2), i - 1);
  }

  static void promise08_parentsChildrenWeights() {
    LakeChain x = Edges.fork();
    int[][] wants = {{-1, 2, -1, 2, 2, 0}, {0, 1, 0, 2, 2, 0}, {0, 1, 0, 1, 2, 4}, {1, 1, 1, 0, 0, 0},
      {1, 1, 1, 0, 0, 5}, {2, 2, 1, 0, 0, 1}};
    for (int n = 0; n < wants.length; n++) {
      for (int i = 0; i < 6; i++) due("about(" + n + ", " + i + ")", x.about(n, i), wants[n][i]);
    }
  }

  static void promise08_noSuchNode() {
    LakeChain x = Edges.fork();
    for (int n : new int[] {-1, 6, 80, 81, MIN, MAX}) {
      for (int i = 0; i < 8; i++) due("about(" + n + ", " + i + ")", x.about(n, i), -2);
    }
  }

  static void promise08_noSuchWhat() {
    LakeChain x = Edges.fork();
    for (int what : new int[] {-1, 8, 9, MIN, MAX}) {
      for (int n = 0; n < 6; n++) due("about(" + n + ", " + what + ")", x.about(n, what), -2);
    }
  }

  static void promise08_noSuchLake() {
    for (int lakes = 0; lakes <= 3; lakes++) {
      LakeChain x = new LakeChain();
      for (int i = 0; i < lakes; i++) x.lake(0, 1, 1, 0);
      x.node(0, 1, 0);
      for (int i = 0; i < 3; i++) due("about(1, " + (5 + i) + "), lakes: " + lakes, x.about(1, 5 + i), i < lakes ? 0 : -2);
    }
  }

  static void promise08_inARun() {
    LakeChain x = Edges.fork();
    x.begin(3);
    x.week(0, 1);
    due("about(2, 5)", x.about(2, 5), 4);
    due("about(6, 5)", x.about(6, 5), -2);
  }

  // ---- 9 count

  static void promise09_noSuchWhat() {
    LakeChain x = Edges.fork();
    for (int what : new int[] {-1, 7, 8, MIN, MAX}) due("count(" + what + ")", x.count(what), BAD);
  }

  static void promise09_lakesAndStates() {
    LakeChain x = new LakeChain();
    int[] greatests = {0, 30, 4};
    int[] states = {1, 31, 155};
    due("count(2) without a lake", x.count(2), 1);
    for (int i = 0; i < 3; i++) {
      x.lake(0, greatests[i], 1, 0);
      due("count(0)", x.count(0), i + 1);
      due("count(2)", x.count(2), states[i]);
    }
  }

  static void promise09_nodes() {
    LakeChain x = new LakeChain();
    x.weeks(1, 6);
    for (int i = 1; i <= 6; i++) {
      due("count(1): the beginning, too", x.count(1), i);
      x.node(0, 1, 0);
    }
    due("count(1)", x.count(1), 7);
  }

  static void promise09_whetherARunHasBegun() {
    LakeChain x = Edges.fork();
    due("count(3)", x.count(3), 0);
    x.begin(10);
    due("count(3), begin was refused", x.count(3), 0);
    x.begin(9);
    due("count(3)", x.count(3), 1);
    x.week(0, 0);
    x.week(0, 0);
    due("count(3), in the last week", x.count(3), 1);
    x.undo();
    x.undo();
    due("count(3), all undone", x.count(3), 1);
    x.stop();
    due("count(3)", x.count(3), 0);
  }

  static void promise09_wholeWantsALake() {
    LakeChain x = new LakeChain();
    x.node(0, 1, 0);
    due("count(6)", x.count(6), 0);
    x.weeks(1, 1);
    x.lake(0, 0, 0, 0);
    due("count(6)", x.count(6), 0);
    x.node(0, 1, 0);
    due("count(6)", x.count(6), 1);
  }

  static void promise09_wholeWantsDOfTheBeginningToo() {
    LakeChain x = new LakeChain();
    x.lake(0, 1, 1, 0);
    x.weeks(1, 6);
    due("count(6): 0 of 6", x.count(6), 0);
    x.node(0, 5, 0);
    due("count(6): 5 of 6", x.count(6), 0);
    x.node(0, 1, 0);
    due("count(6): 6 of 6", x.count(6), 1);
  }

  static void promise09_wholeWantsDOfEachNodeAheadOfTheLastWeek() {
    LakeChain x = new LakeChain();
    x.lake(0, 1, 1, 0);
    x.weeks(3, 2);
    x.node(0, 1, 0);
    x.node(0, 1, 0);
    x.node(1, 2, 0);
    x.node(2, 2, 0);
    x.node(3, 2, 0);
    due("count(6): nothing below 4", x.count(6), 0);
    x.node(4, 1, 0);
    due("count(6): 1 of 2 below 4", x.count(6), 0);
    x.node(4, 1, 0);
    due("count(6)", x.count(6), 1);
  }

  static void promise09_wholeAsksNothingOfTheLastWeek() {
    LakeChain x = Edges.fork();
    for (int n = 3; n <= 5; n++) due("about(" + n + ", 4)", x.about(n, 4), 0);
    due("count(6)", x.count(6), 1);
  }
}
