/** The boundary cases of promises 20 to 26, a test for each sentence of the document that names one. */
public final class RunEdgeTest {
  private static final int MIN = Edges.MIN, MAX = Edges.MAX;
  private static final int BAD = Edges.BAD, BUSY = Edges.BUSY, ROUGH = Edges.ROUGH, OVER = Edges.OVER;
  private static final int NONE = Edges.NONE;

  public static void main(String[] args) throws IllegalAccessException {
    Edges.go(RunEdgeTest.class, 20, 26);
  }

  private static void due(String call, long got, long want) {
    Edges.due(call, got, want);
  }

  /** Asks week() with 0 .. 15 from a state of one lake: those from least to most may be, no other. */
  private static void dueLets(LakeChain x, int state, int least, int most) {
    x.begin(state);
    for (int let = 0; let < 16; let++) {
      boolean may = let >= least && let <= most;
      due("week(" + let + ", 0) from " + state, x.week(let, 0), may ? let : BAD);
      if (may) due("undo()", x.undo(), -1);
    }
  }

  // ---- 20 begin

  static void promise20_noSuchState() {
    LakeChain x = Edges.fork();
    for (int s : new int[] {-1, 10, 1000, MIN, MAX}) due("begin(" + s + ")", x.begin(s), BAD);
    due("count(3)", x.count(3), 0);
    due("begin(0)", x.begin(0), 1);
    due("begin(9)", x.begin(9), 1);
  }

  static void promise20_state999() {
    LakeChain x = Edges.chain(0, 9, 9, 9);
    due("begin(1000)", x.begin(1000), BAD);
    due("begin(999)", x.begin(999), 1);
    due("now(1)", x.now(1), 999);
  }

  static void promise20_rough() {
    LakeChain x = new LakeChain();
    due("begin(0) without a lake", x.begin(0), ROUGH);
    x.lake(0, 4, 2, 0);
    due("begin(0) without a node", x.begin(0), ROUGH);
    x.weeks(1, 2);
    x.node(0, 1, 0);
    due("begin(4), 1 of 2", x.begin(4), ROUGH);
    due("count(3)", x.count(3), 0);
    x.node(0, 1, 0);
    due("begin(4)", x.begin(4), 1);
  }

  static void promise20_badAheadOfRough() {
    LakeChain x = new LakeChain();
    due("begin(1) without a lake", x.begin(1), BAD);
    due("begin(-1) without a lake", x.begin(-1), BAD);
    x.lake(0, 4, 2, 0);
    due("begin(5)", x.begin(5), BAD);
  }

  static void promise20_atTheBeginning() {
    LakeChain x = Edges.fork();
    x.begin(7);
    Edges.dueNow(x, 0, 7, 0, 0, 0, 0, 0);
  }

  static void promise20_oneGoingOnIsGivenUp() {
    LakeChain x = Edges.fork();
    x.begin(9);
    x.week(3, 1);
    x.week(3, 0);
    due("begin(5)", x.begin(5), 1);
    Edges.dueNow(x, 0, 5, 0, 0, 0, 0, 0);
    due("undo()", x.undo(), NONE);
    due("count(3)", x.count(3), 1);
  }

  static void promise20_refusedTheRunGoesOn() {
    LakeChain x = Edges.fork();
    x.begin(9);
    x.week(3, 1);
    due("begin(10)", x.begin(10), BAD);
    Edges.dueNow(x, 2, 9, 3, 1, 3, 4, 1);
    due("undo()", x.undo(), -1);
  }

  // ---- 21 week: when

  static void promise21_noRunHasBegun() {
    LakeChain x = Edges.fork();
    due("week(0, 0)", x.week(0, 0), NONE);
    x.begin(9);
    x.stop();
    due("week(0, 0), given up", x.week(0, 0), NONE);
  }

  static void promise21_noRunAheadOfBad() {
    LakeChain x = Edges.fork();
    due("week(-1, 0)", x.week(-1, 0), NONE);
    due("week(0, 2)", x.week(0, 2), NONE);
    due("week(16, -1)", x.week(16, -1), NONE);
  }

  static void promise21_over() {
    LakeChain x = Edges.fork();
    x.begin(9);
    x.week(0, 0);
    due("week(0, 1), ahead of the last week", x.week(0, 1), 0);
    due("week(0, 0)", x.week(0, 0), OVER);
    Edges.dueNow(x, 4, 9, 0, 5, 0, 5, 2);
  }

  static void promise21_overAheadOfBad() {
    LakeChain x = Edges.one(0, 9, 3, 0, 0);
    x.begin(9);
    x.week(0, 0);
    due("week(4, 0)", x.week(4, 0), OVER);
    due("week(0, 1)", x.week(0, 1), OVER);
    due("week(-1, -1)", x.week(-1, -1), OVER);
  }

  static void promise21_noSuchChild() {
    LakeChain x = Edges.fork();
    x.begin(9);
    for (int k : new int[] {-1, 2, 6, MIN, MAX}) due("week(0, " + k + ")", x.week(0, k), BAD);
    due("week(0, 1)", x.week(0, 1), 0);
    due("week(0, 1), one child", x.week(0, 1), BAD);
    due("week(0, 0)", x.week(0, 0), 0);
  }

  static void promise21_childrenAsTheyWereMade() {
    LakeChain x = new LakeChain();
    x.lake(0, 9, 3, 0);
    x.weeks(2, 3);
    x.node(0, 1, 1);
    x.node(1, 1, 2);
    x.node(0, 1, 3);
    x.node(3, 3, 4);
    x.node(1, 2, 5);
    x.node(0, 1, 6);
    x.node(6, 3, 7);
    x.begin(0);
    int[] children = {1, 3, 6};
    for (int k = 0; k < 3; k++) {
      x.week(0, k);
      due("now(0), child " + k, x.now(0), children[k]);
      x.undo();
    }
    x.week(0, 0);
    x.week(0, 1);
    due("now(0), child 1 of 1", x.now(0), 5);
  }

  static void promise21_sixChildren() {
    LakeChain x = new LakeChain();
    x.lake(0, 9, 3, 0);
    x.weeks(1, 6);
    for (int i = 0; i < 6; i++) x.node(0, 1, i);
    x.begin(0);
    due("week(0, 6)", x.week(0, 6), BAD);
    due("week(0, 5)", x.week(0, 5), 0);
    due("now(1)", x.now(1), 5);
  }

  static void promise21_refusedChangesNothing() {
    LakeChain x = Edges.fork();
    x.begin(9);
    x.week(3, 1);
    x.week(4, 0);
    x.week(-1, 0);
    x.week(16, 0);
    x.week(0, 1);
    Edges.dueNow(x, 2, 9, 3, 1, 3, 4, 1);
    due("undo()", x.undo(), -1);
    due("undo()", x.undo(), NONE);
  }

  // ---- 21 week: the lets

  static void promise21_letsFromNothing() {
    dueLets(Edges.one(0, 9, 10, 5, 0), 0, 0, 0);
    dueLets(Edges.one(0, 9, 10, 0, 0), 0, 0, 0);
    dueLets(Edges.one(5, 9, 10, 5, 0), 0, 0, 0);
  }

  static void promise21_letsAtLeastTheFish() {
    LakeChain x = Edges.one(0, 9, 10, 3, 0);
    dueLets(x, 9, 3, 9);
    dueLets(x, 4, 3, 4);
    dueLets(x, 3, 3, 3);
  }

  static void promise21_letsAtLeastTheMeasureIfTheFishIsMore() {
    LakeChain x = Edges.one(0, 9, 10, 3, 0);
    dueLets(x, 2, 2, 2);
    dueLets(x, 1, 1, 1);
  }

  static void promise21_letsAtMostTheLimit() {
    LakeChain x = Edges.one(0, 30, 4, 0, 0);
    dueLets(x, 3, 0, 3);
    dueLets(x, 4, 0, 4);
    dueLets(x, 5, 0, 4);
    dueLets(x, 30, 0, 4);
  }

  static void promise21_letsOfLimit0And10() {
    dueLets(Edges.one(0, 30, 0, 0, 0), 30, 0, 0);
    dueLets(Edges.one(0, 30, 10, 0, 0), 30, 0, 10);
    dueLets(Edges.one(0, 30, 10, 0, 0), 11, 0, 10);
    dueLets(Edges.one(0, 30, 10, 0, 0), 10, 0, 10);
  }

  static void promise21_letsAtMostWhatIsAboveTheLeast() {
    LakeChain x = Edges.one(3, 9, 10, 0, 0);
    dueLets(x, 5, 0, 2);
    dueLets(x, 4, 0, 1);
    dueLets(x, 3, 0, 0);
  }

  static void promise21_lets0BelowTheLeast() {
    LakeChain x = Edges.one(3, 9, 10, 0, 0);
    dueLets(x, 2, 0, 0);
    dueLets(x, 1, 0, 0);
  }

  static void promise21_letsNeverLessThanTheLeastOne() {
    LakeChain x = Edges.one(0, 9, 1, 5, 0);
    dueLets(x, 9, 5, 5);
    dueLets(x, 2, 2, 2);
    LakeChain y = Edges.one(5, 9, 10, 2, 0);
    dueLets(y, 3, 2, 2);
    dueLets(y, 5, 2, 2);
    dueLets(y, 6, 2, 2);
    dueLets(y, 7, 2, 2);
    dueLets(y, 8, 2, 3);
  }

  static void promise21_oneDigitForEachLake() {
    int past = 1;
    for (int lakes = 1; lakes <= 3; lakes++) {
      past *= 16;
      LakeChain x = new LakeChain();
      for (int i = 0; i < lakes; i++) x.lake(0, 1, 1, 0);
      x.node(0, 1, 0);
      x.begin(x.count(2) - 1);
      due("week(" + past + ", 0), lakes: " + lakes, x.week(past, 0), BAD);
      due("week(" + (past + 1) + ", 0)", x.week(past + 1, 0), BAD);
      due("week(" + (past - 1) + ", 0)", x.week(past - 1, 0), BAD);
      int ones = 0;
      for (int i = 0; i < lakes; i++) ones = ones * 16 + 1;
      due("week(" + ones + ", 0)", x.week(ones, 0), lakes);
    }
  }

  static void promise21_letsNotBelow0OrBeyondAll() {
    LakeChain x = Edges.chain(0, 1, 1, 1);
    x.begin(7);
    for (int lets : new int[] {-1, -16, -256, -4096, 4096, 4097, 65536, 1 << 28, MIN, MAX, MIN + 1}) {
      due("week(" + lets + ", 0)", x.week(lets, 0), BAD);
    }
    due("week(0, 0)", x.week(0, 0), 0);
  }

  static void promise21_lake0sDigitIsTheHighest() {
    LakeChain x = Edges.chain(0, 3, 3, 3);
    x.begin(3 * 16 + 2 * 4 + 1);
    due("week(0x321, 0)", x.week(0x321, 0), 6);
    Edges.dueNow(x, 1, 0 * 16 + 3 * 4 + 2, 6, 0, 1, 0, 1);
    x.undo();
    due("week(0x123, 0): 3 of lake 2", x.week(0x123, 0), BAD);
    due("week(0x400, 0)", x.week(0x400, 0), BAD);
    due("week(0x030, 0)", x.week(0x030, 0), BAD);
  }

  static void promise21_letsAreToldByWhatIsThere() {
    LakeChain x = Edges.chain(55, 9, 9);
    x.begin(40);
    due("week(0x41, 0): lake 1 is empty yet", x.week(0x41, 0), BAD);
    due("week(0x50, 0): 4 are there yet", x.week(0x50, 0), BAD);
    due("week(0x40, 0)", x.week(0x40, 0), 4);
    due("now(1)", x.now(1), 59);
  }

  // ---- 21 week: what it does

  static void promise21_whatItEarns() {
    LakeChain x = Edges.chain(0, 9, 9);
    x.head(0, 9, 9);
    x.head(0, 8, 5);
    x.head(1, 9, 4);
    x.price(0, 20);
    x.begin(98);
    due("week(0x98, 0): head 9 ahead of the let, 1", x.week(0x98, 0), 20 * (9 * 9 + 8));
    x.begin(89);
    due("week(0x19, 0): head 5 and 4", x.week(0x19, 0), 20 * (5 + 4 * 9));
    x.begin(0);
    due("week(0, 0)", x.week(0, 0), 0);
  }

  static void promise21_priceOfTheWeek() {
    LakeChain x = new LakeChain();
    x.lake(0, 30, 1, 0);
    x.weeks(10, 1);
    for (int i = 0; i < 10; i++) x.node(i, 1, 0);
    for (int i = 0; i < 10; i++) x.price(i, 20 - 2 * i);
    x.begin(30);
    for (int i = 0; i < 10; i++) due("week(1, 0), the " + i + "th", x.week(1, 0), 20 - 2 * i);
    due("week(1, 0)", x.week(1, 0), OVER);
    due("now(2)", x.now(2), 110);
  }

  static void promise21_uptoGreatestNothingSpills() {
    LakeChain x = Edges.one(0, 9, 9, 0, 5);
    x.begin(4);
    x.week(0, 0);
    Edges.dueNow(x, 1, 9, 0, 0, 0, 5, 1);
  }

  static void promise21_beyondGreatestItSpillsOutOfTheValley() {
    LakeChain x = Edges.one(0, 9, 9, 0, 5);
    x.begin(5);
    x.week(0, 0);
    Edges.dueNow(x, 1, 9, 0, 1, 0, 5, 1);
  }

  static void promise21_fromLake0OnThroughAll() {
    LakeChain x = Edges.chain(900, 1, 2, 3);
    x.begin(0);
    x.week(0, 0);
    // 8 spill from lake 0, 6 of them from lake 1, 3 of these out of the valley
    Edges.dueNow(x, 1, 23, 0, 17, 0, 9, 1);
  }

  static void promise21_itSpillsOnlyDownTheChain() {
    LakeChain x = Edges.chain(9, 1, 2, 3);
    x.begin(0);
    x.week(0, 0);
    Edges.dueNow(x, 1, 3, 0, 6, 0, 9, 1);
  }

  static void promise21_whatIsLetMaySpillInTheNextOne() {
    LakeChain x = Edges.chain(0, 9, 2);
    x.begin(9 * 3 + 2);
    due("week(0x90, 0)", x.week(0x90, 0), 9);
    Edges.dueNow(x, 1, 2, 9, 9, 0, 0, 1);
    x.undo();
    due("week(0x92, 0)", x.week(0x92, 0), 11);
    Edges.dueNow(x, 1, 2, 11, 7, 2, 0, 1);
  }

  static void promise21_aLakeOfGreatest0() {
    LakeChain x = Edges.chain(99, 0, 9);
    x.begin(1);
    due("week(0x01, 0)", x.week(0x01, 0), 1);
    // 9 run through lake 0; 0 and 9 and 9 in lake 1: 9 spill
    Edges.dueNow(x, 1, 9, 1, 18, 1, 18, 1);
  }

  // ---- 22 best

  static void promise22_noRunAheadOfBad() {
    LakeChain x = Edges.fork();
    due("best(0)", x.best(0), NONE);
    due("best(2)", x.best(2), NONE);
    due("best(-1)", x.best(-1), NONE);
    x.begin(9);
    x.stop();
    due("best(0), given up", x.best(0), NONE);
  }

  static void promise22_overAheadOfBad() {
    LakeChain x = Edges.one(0, 9, 3, 0, 0);
    x.begin(9);
    due("best(0)", x.best(0), 3);
    due("best(0)", x.best(0), OVER);
    due("best(1)", x.best(1), OVER);
    due("best(-1)", x.best(-1), OVER);
  }

  static void promise22_noSuchChild() {
    LakeChain x = Edges.fork();
    x.begin(9);
    for (int k : new int[] {-1, 2, 6, MIN, MAX}) due("best(" + k + ")", x.best(k), BAD);
    Edges.dueNow(x, 0, 9, 0, 0, 0, 0, 0);
    due("best(1)", x.best(1), 3);
  }

  static void promise22_byPolicyAsItIsThere() {
    LakeChain x = Edges.fork();
    x.end(0, 5);
    x.begin(9);
    // a measure let earns 4, and 5 less are kept in the cases behind the dry week
    due("policy(0, 9, 0)", x.policy(0, 9, 0), 0);
    due("best(1)", x.best(1), 0);
    Edges.dueNow(x, 2, 9, 0, 4, 0, 4, 1);
    // 1 comes and would spill
    due("policy(2, 9, 0)", x.policy(2, 9, 0), 1);
    due("best(0)", x.best(0), 1);
    Edges.dueNow(x, 5, 9, 1, 4, 1, 5, 2);
  }

  static void promise22_allAsGoodTheLeast() {
    LakeChain x = Edges.chain(0, 1, 1, 1);
    x.price(0, 0);
    x.begin(7);
    due("best(0)", x.best(0), 0);
    Edges.dueNow(x, 1, 7, 0, 0, 0, 0, 1);
  }

  static void promise22_undone() {
    LakeChain x = Edges.fork();
    x.begin(9);
    x.best(0);
    due("undo()", x.undo(), -1);
    Edges.dueNow(x, 0, 9, 0, 0, 0, 0, 0);
  }

  // ---- 23 ruled

  static void promise23_noRunAheadOfBad() {
    LakeChain x = Edges.fork();
    due("ruled(0)", x.ruled(0), NONE);
    due("ruled(2)", x.ruled(2), NONE);
    due("ruled(-1)", x.ruled(-1), NONE);
    x.begin(9);
    x.stop();
    due("ruled(0), given up", x.ruled(0), NONE);
  }

  static void promise23_overAheadOfBad() {
    LakeChain x = Edges.one(0, 9, 3, 0, 0);
    x.begin(9);
    due("ruled(0)", x.ruled(0), 3);
    due("ruled(0)", x.ruled(0), OVER);
    due("ruled(1)", x.ruled(1), OVER);
    due("ruled(-1)", x.ruled(-1), OVER);
  }

  static void promise23_noSuchChild() {
    LakeChain x = Edges.fork();
    x.begin(9);
    for (int k : new int[] {-1, 2, 6, MIN, MAX}) due("ruled(" + k + ")", x.ruled(k), BAD);
    Edges.dueNow(x, 0, 9, 0, 0, 0, 0, 0);
    due("ruled(1)", x.ruled(1), 3);
  }

  static void promise23_atFirstAllThatMayBe() {
    LakeChain x = Edges.chain(0, 9, 9, 9);
    x.begin(987);
    due("ruled(0)", x.ruled(0), 24);
    Edges.dueNow(x, 1, 98, 24, 0, 7, 0, 1);
  }

  static void promise23_noLessAndNoMoreThanMayBe() {
    LakeChain x = Edges.one(4, 9, 3, 1, 0);
    x.rule(0, 30, 0);
    x.begin(9);
    due("ruled(0): the fish's", x.ruled(0), 1);
    x.rule(0, 0, 30);
    x.begin(9);
    due("ruled(0): the limit", x.ruled(0), 3);
    x.begin(6);
    due("ruled(0): above the least", x.ruled(0), 2);
    x.begin(0);
    due("ruled(0): nothing is there", x.ruled(0), 0);
  }

  static void promise23_undone() {
    LakeChain x = Edges.fork();
    x.begin(9);
    x.ruled(1);
    x.ruled(0);
    due("undo()", x.undo(), 0);
    Edges.dueNow(x, 2, 9, 3, 1, 3, 4, 1);
  }

  // ---- 24 undo

  static void promise24_noRunHasBegun() {
    LakeChain x = Edges.fork();
    due("undo()", x.undo(), NONE);
    x.begin(9);
    x.week(0, 0);
    x.stop();
    due("undo(), given up", x.undo(), NONE);
  }

  static void promise24_noneWas() {
    LakeChain x = Edges.fork();
    x.begin(9);
    due("undo()", x.undo(), NONE);
    Edges.dueNow(x, 0, 9, 0, 0, 0, 0, 0);
    x.week(0, 2);
    due("undo(), a week was refused", x.undo(), NONE);
  }

  static void promise24_backToTheBeginning() {
    LakeChain x = new LakeChain();
    x.lake(0, 9, 3, 0);
    x.weeks(10, 1);
    for (int i = 0; i < 10; i++) x.node(i, 1, 9);
    x.begin(9);
    for (int i = 0; i < 10; i++) x.week(1, 0);
    Edges.dueNow(x, 10, 9, 10, 80, 10, 90, 10);
    for (int i = 9; i >= 1; i--) {
      due("undo()", x.undo(), i - 1);
      Edges.dueNow(x, i, 9, i, 8 * i, i, 9 * i, i);
    }
    due("undo()", x.undo(), -1);
    Edges.dueNow(x, 0, 9, 0, 0, 0, 0, 0);
    due("undo()", x.undo(), NONE);
  }

  static void promise24_thenAnotherWay() {
    LakeChain x = Edges.fork();
    x.begin(9);
    x.week(3, 1);
    x.week(3, 0);
    x.undo();
    x.undo();
    due("week(1, 0)", x.week(1, 0), 1);
    Edges.dueNow(x, 1, 8, 1, 0, 1, 0, 1);
    due("week(2, 1)", x.week(2, 1), 2);
    Edges.dueNow(x, 4, 9, 3, 2, 3, 5, 2);
  }

  static void promise24_allUndoneTheRunIsStillOn() {
    LakeChain x = Edges.fork();
    x.begin(9);
    x.week(3, 1);
    x.undo();
    due("count(3)", x.count(3), 1);
    due("price(0, 2)", x.price(0, 2), BUSY);
    due("stop()", x.stop(), 1);
  }

  static void promise24_notIntoARunGivenUp() {
    LakeChain x = Edges.fork();
    x.begin(9);
    x.week(3, 1);
    x.begin(8);
    due("undo()", x.undo(), NONE);
    due("now(1)", x.now(1), 8);
    x.week(3, 0);
    x.stop();
    x.begin(7);
    due("undo()", x.undo(), NONE);
    due("now(1)", x.now(1), 7);
  }

  static void promise24_theStateAsItWasThoughItSpilled() {
    LakeChain x = Edges.chain(999, 2, 2, 2);
    x.begin(1 * 9 + 2 * 3 + 0);
    x.week(0x110, 0);
    due("now(1)", x.now(1), 26);
    due("undo()", x.undo(), -1);
    due("now(1)", x.now(1), 15);
  }

  // ---- 25 stop

  static void promise25_thereIsNone() {
    LakeChain x = Edges.fork();
    due("stop()", x.stop(), 0);
    x.begin(10);
    due("stop(), begin was refused", x.stop(), 0);
    x.begin(9);
    due("stop()", x.stop(), 1);
    due("stop(), again", x.stop(), 0);
  }

  static void promise25_givenUp() {
    LakeChain x = Edges.fork();
    x.begin(9);
    x.week(3, 1);
    x.stop();
    due("count(3)", x.count(3), 0);
    for (int what = 0; what <= 6; what++) due("now(" + what + ")", x.now(what), NONE);
    due("week(0, 0)", x.week(0, 0), NONE);
    due("undo()", x.undo(), NONE);
  }

  static void promise25_nothingIsBusyThen() {
    LakeChain x = Edges.fork();
    x.begin(9);
    x.stop();
    due("head(0, 9, 2)", x.head(0, 9, 2), 1);
    due("end(0, 3)", x.end(0, 3), 0);
    due("price(0, 5)", x.price(0, 5), 1);
    due("weeks(1, 1)", x.weeks(1, 1), 1);
    due("lake(0, 1, 1, 1)", x.lake(0, 1, 1, 1), 1);
    due("node(0, 1, 11)", x.node(0, 1, 11), 1);
  }

  static void promise25_inTheLastWeekToo() {
    LakeChain x = Edges.one(0, 9, 3, 0, 0);
    x.begin(9);
    x.week(0, 0);
    due("stop()", x.stop(), 1);
    due("begin(3)", x.begin(3), 1);
    Edges.dueNow(x, 0, 3, 0, 0, 0, 0, 0);
  }

  // ---- 26 now

  static void promise26_noRunHasBegun() {
    LakeChain x = Edges.fork();
    for (int what = 0; what <= 6; what++) due("now(" + what + ")", x.now(what), NONE);
  }

  static void promise26_noRunAheadOfBad() {
    LakeChain x = Edges.fork();
    for (int what : new int[] {-1, 7, MIN, MAX}) due("now(" + what + ")", x.now(what), NONE);
  }

  static void promise26_noSuchWhat() {
    LakeChain x = Edges.fork();
    x.begin(9);
    for (int what : new int[] {-1, 7, 8, MIN, MAX}) due("now(" + what + ")", x.now(what), BAD);
    due("now(6)", x.now(6), 0);
  }

  static void promise26_ofEachKindItsOwn() {
    LakeChain x = new LakeChain();
    x.lake(0, 9, 9, 0);
    x.lake(0, 4, 9, 0);
    x.weeks(2, 1);
    x.price(0, 7);
    x.node(0, 1, 90);
    x.node(1, 1, 12);
    x.begin(9 * 5 + 4);
    x.week(0x31, 0);
    // lake 0: 9 - 3 + 9, 6 spill; lake 1: 4 - 1 + 3 + 6, 8 spill
    Edges.dueNow(x, 1, 49, 28, 14, 1, 9, 1);
    x.week(0x02, 0);
    // lake 0: 10, 1 spills; lake 1: 4 - 2 + 2 + 1, 1 spills
    Edges.dueNow(x, 2, 49, 30, 16, 3, 12, 2);
  }

  static void promise26_spilledIntoTheNextOneToo() {
    LakeChain x = Edges.chain(90, 4, 9);
    x.begin(0);
    x.week(0, 0);
    // 5 spill from lake 0 and stay in lake 1
    Edges.dueNow(x, 1, 45, 0, 5, 0, 9, 1);
  }

  static void promise26_letOutByTheLastLakeAlone() {
    LakeChain x = Edges.chain(0, 9, 9, 9);
    x.begin(999);
    x.week(0x990, 0);
    due("now(4)", x.now(4), 0);
    x.undo();
    x.week(0x005, 0);
    due("now(4)", x.now(4), 5);
    LakeChain y = Edges.one(0, 9, 9, 0, 0);
    y.begin(9);
    y.week(7, 0);
    due("now(4), one lake", y.now(4), 7);
  }

  static void promise26_whatIsLetOutIsNotSpilled() {
    LakeChain x = Edges.one(0, 9, 9, 0, 9);
    x.begin(9);
    x.week(9, 0);
    Edges.dueNow(x, 1, 9, 9, 0, 9, 9, 1);
  }

  static void promise26_inflowsThatSpilledCameToo() {
    LakeChain x = Edges.chain(999, 0, 0, 0);
    x.begin(0);
    x.week(0, 0);
    // 9, then 18, then 27 spill
    Edges.dueNow(x, 1, 0, 0, 54, 0, 27, 1);
  }
}
