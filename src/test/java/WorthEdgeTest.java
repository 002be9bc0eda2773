/** The boundary cases of promises 10 to 13, a test for each sentence of the document that names one. */
public final class WorthEdgeTest {
  private static final int MIN = Edges.MIN, MAX = Edges.MAX;
  private static final int BAD = Edges.BAD, ROUGH = Edges.ROUGH, OVER = Edges.OVER;
  private static final long NO = Edges.NO;

  public static void main(String[] args) throws IllegalAccessException {
    Edges.go(WorthEdgeTest.class, 10, 13);
  }

  private static void due(String call, long got, long want) {
    Edges.due(call, got, want);
  }

  /** One lake (0 .. 4), two parts, one of which has a node of the last week: the tree is rough. */
  private static LakeChain rough() {
    LakeChain x = new LakeChain();
    x.lake(0, 4, 2, 0);
    x.weeks(1, 2);
    x.node(0, 1, 0);
    return x;
  }

  // ---- 10 worth

  static void promise10_noSuchNode() {
    LakeChain x = Edges.fork();
    for (int n : new int[] {-1, 6, 80, 81, MIN, MAX}) due("worth(" + n + ", 0)", x.worth(n, 0), NO);
    due("worth(5, 0)", x.worth(5, 0), 0);
  }

  static void promise10_noSuchState() {
    LakeChain x = Edges.fork();
    for (int s : new int[] {-1, 10, 1000, MIN, MAX}) {
      due("worth(0, " + s + ")", x.worth(0, s), NO);
      due("worth(5, " + s + ")", x.worth(5, s), NO);
    }
    due("worth(0, 9)", x.worth(0, 9), 24);
    due("worth(0, 0)", x.worth(0, 0), 6);
  }

  static void promise10_rough() {
    LakeChain x = rough();
    due("worth(0, 0)", x.worth(0, 0), NO);
    due("worth(1, 0), of the last week", x.worth(1, 0), NO);
    x.node(0, 1, 0);
    due("worth(1, 0)", x.worth(1, 0), 0);
    LakeChain y = new LakeChain();
    y.node(0, 1, 0);
    due("worth(0, 0) without a lake", y.worth(0, 0), NO);
    due("worth(1, 0) without a lake", y.worth(1, 0), NO);
  }

  static void promise10_ofTheLastWeek() {
    LakeChain x = Edges.chain(999, 1, 2, 3);
    x.end(0, 99);
    x.end(1, 1);
    x.end(2, 10);
    due("worth(1, 0)", x.worth(1, 0), 0);
    due("worth(1, 1): (0, 0, 1)", x.worth(1, 1), 10);
    due("worth(1, 4): (0, 1, 0)", x.worth(1, 4), 1);
    due("worth(1, 12): (1, 0, 0)", x.worth(1, 12), 99);
    due("worth(1, 23): (1, 2, 3)", x.worth(1, 23), 131);
  }

  static void promise10_timesDToThePowerOfTheWeeksLeft() {
    LakeChain x = new LakeChain();
    x.lake(0, 30, 0, 0);
    x.end(0, 99);
    x.weeks(10, 6);
    for (int i = 0; i < 10; i++) x.node(i, 6, 0);
    long power = 1;
    for (int i = 10; i >= 0; i--, power *= 6) due("worth(" + i + ", 30)", x.worth(i, 30), power * 2970);
  }

  static void promise10_theMostThatMayCome() {
    LakeChain x = new LakeChain();
    x.lake(0, 30, 10, 0);
    x.lake(0, 30, 10, 0);
    x.weeks(10, 6);
    for (int i = 0; i < 10; i++) x.node(i, 6, 99);
    for (int i = 0; i < 10; i++) x.price(i, 20);
    for (int i = 0; i < 2; i++) {
      x.head(i, 30, 9);
      x.end(i, 99);
    }
    // each week 9 from lake 0 and 10 from lake 1 at head 9, and both are full again; in the last week 10 from
    // lake 0, too, as a measure earns 180 then and is worth 99 behind it
    due("worth(0, 960)", x.worth(0, 960), 60466176L * (10 * 20 * 9 * 19 + 2 * 30 * 99 + 180 - 99));
  }

  static void promise10_aWholeNumberNotRounded() {
    LakeChain x = new LakeChain();
    x.lake(0, 9, 0, 0);
    x.end(0, 1);
    x.weeks(1, 6);
    x.node(0, 5, 0);
    x.node(0, 1, 1);
    due("worth(0, 0): a sixth", x.worth(0, 0), 1);
    due("worth(0, 9): all that comes spills", x.worth(0, 9), 54);
  }

  static void promise10_meanByWeights() {
    LakeChain x = new LakeChain();
    x.lake(0, 9, 0, 0);
    x.end(0, 1);
    x.weeks(2, 3);
    x.node(0, 2, 1);
    x.node(0, 1, 4);
    x.node(1, 3, 0);
    x.node(2, 1, 2);
    x.node(2, 2, 0);
    due("worth(0, 0): 2 * 3 * 1 and 1 * (6 and 2 * 4)", x.worth(0, 0), 20);
  }

  static void promise10_theGreatestMayBeToLetNothing() {
    LakeChain x = Edges.one(0, 9, 5, 0, 0);
    x.end(0, 2);
    due("worth(0, 9)", x.worth(0, 9), 18);
    x.end(0, 0);
    due("worth(0, 9), the limit", x.worth(0, 9), 5);
  }

  static void promise10_atLeastTheFishOrWhatIsThere() {
    LakeChain x = Edges.one(0, 9, 10, 5, 0);
    x.end(0, 99);
    due("worth(0, 0): nothing is there", x.worth(0, 0), 0);
    due("worth(0, 3): all must go", x.worth(0, 3), 3);
    due("worth(0, 5): all must go", x.worth(0, 5), 5);
    due("worth(0, 6): one stays", x.worth(0, 6), 104);
  }

  static void promise10_atMostTheLimit() {
    LakeChain x = Edges.one(0, 9, 4, 0, 0);
    due("worth(0, 3)", x.worth(0, 3), 3);
    due("worth(0, 4)", x.worth(0, 4), 4);
    due("worth(0, 5)", x.worth(0, 5), 4);
    LakeChain y = Edges.one(0, 9, 0, 0, 0);
    due("worth(0, 9), limit 0", y.worth(0, 9), 0);
  }

  static void promise10_atMostWhatIsAboveTheLeast() {
    LakeChain x = Edges.one(3, 9, 10, 0, 0);
    int[] wants = {0, 0, 0, 0, 1, 2};
    for (int m = 0; m < wants.length; m++) due("worth(0, " + m + ")", x.worth(0, m), wants[m]);
  }

  static void promise10_neverLessThanTheLeastLet() {
    LakeChain x = Edges.one(0, 9, 1, 5, 0);
    due("worth(0, 9): the fish's is above the limit", x.worth(0, 9), 5);
    LakeChain y = Edges.one(5, 9, 10, 2, 0);
    due("worth(0, 3): the fish's, below the least", y.worth(0, 3), 2);
    due("worth(0, 6): the fish's, to below the least", y.worth(0, 6), 2);
    due("worth(0, 8)", y.worth(0, 8), 3);
  }

  static void promise10_theHeadAheadOfTheLet() {
    LakeChain x = Edges.one(0, 9, 10, 0, 0);
    x.head(0, 9, 9);
    x.head(0, 0, 0);
    due("worth(0, 9)", x.worth(0, 9), 81);
    due("worth(0, 8)", x.worth(0, 8), 8);
    x.head(0, 1, 0);
    due("worth(0, 1), head 0", x.worth(0, 1), 0);
  }

  static void promise10_onlyWhatIsBeyondGreatestSpills() {
    LakeChain x = Edges.one(0, 9, 0, 0, 9);
    x.end(0, 1);
    due("worth(0, 0): 9 of 9", x.worth(0, 0), 9);
    due("worth(0, 1): 10, and 1 spills", x.worth(0, 1), 9);
    due("worth(0, 9): 18, and 9 spill", x.worth(0, 9), 9);
  }

  static void promise10_spillsIntoTheNextOne() {
    LakeChain x = Edges.chain(900, 1, 1, 9);
    x.price(0, 0);
    x.end(2, 1);
    due("worth(0, 0): 1, 1 and 7", x.worth(0, 0), 7);
    due("worth(0, 5): (0, 0, 5): 12, and 3 spill", x.worth(0, 5), 9);
  }

  static void promise10_whatIsLetComesIntoTheNextOne() {
    LakeChain x = Edges.chain(0, 9, 9);
    x.price(0, 0);
    x.end(1, 10);
    due("worth(0, 90): 9 come", x.worth(0, 90), 90);
    due("worth(0, 99): what comes spills", x.worth(0, 99), 90);
  }

  static void promise10_whatIsLetFromTheLastOneIsGone() {
    LakeChain x = Edges.chain(0, 9, 9);
    x.end(0, 1);
    x.end(1, 1);
    due("worth(0, 9): let or kept", x.worth(0, 9), 9);
    x.end(1, 0);
    x.price(0, 0);
    due("worth(0, 9)", x.worth(0, 9), 0);
  }

  static void promise10_letsAreToldByWhatIsThereFirst() {
    LakeChain x = Edges.chain(99, 9, 9);
    due("worth(0, 0): what comes can't be let at once", x.worth(0, 0), 0);
    due("worth(0, 90): from lake 0 alone", x.worth(0, 90), 9);
  }

  static void promise10_inARun() {
    LakeChain x = Edges.fork();
    long before = x.worth(0, 9);
    x.begin(9);
    x.best(1);
    due("worth(0, 9)", x.worth(0, 9), before);
  }

  static void promise10_anewBehindEachChange() {
    LakeChain x = Edges.fork();
    due("worth(0, 9)", x.worth(0, 9), 24);
    x.price(1, 2);
    due("worth(0, 9): 12 and 12 and 12", x.worth(0, 9), 36);
    x.head(0, 9, 2);
    // 3 of 9 now at head 2; in the wet case 9 are there again, at head 2 and price 2
    due("worth(0, 9): 24 and 12 and 24", x.worth(0, 9), 60);
    x.weeks(1, 1);
    x.node(0, 1, 0);
    due("worth(0, 9): 3 at head 2", x.worth(0, 9), 6);
  }

  // ---- 11 policy

  static void promise11_noSuchNode() {
    LakeChain x = Edges.fork();
    for (int n : new int[] {-1, 6, MIN, MAX}) due("policy(" + n + ", 0, 0)", x.policy(n, 0, 0), BAD);
    due("policy(2, 0, 0)", x.policy(2, 0, 0), 0);
  }

  static void promise11_noSuchState() {
    LakeChain x = Edges.fork();
    for (int s : new int[] {-1, 10, MIN, MAX}) due("policy(0, " + s + ", 0)", x.policy(0, s, 0), BAD);
    due("policy(0, 9, 0)", x.policy(0, 9, 0), 3);
  }

  static void promise11_noSuchLake() {
    LakeChain x = Edges.chain(0, 1, 1);
    for (int lake : new int[] {-1, 2, 3, MIN, MAX}) due("policy(0, 0, " + lake + ")", x.policy(0, 0, lake), BAD);
    due("policy(0, 1, 1)", x.policy(0, 1, 1), 1);
  }

  static void promise11_badAheadOfRough() {
    LakeChain x = rough();
    due("policy(2, 0, 0)", x.policy(2, 0, 0), BAD);
    due("policy(0, 5, 0)", x.policy(0, 5, 0), BAD);
    due("policy(0, 0, 1)", x.policy(0, 0, 1), BAD);
    due("policy(0, 4, 0)", x.policy(0, 4, 0), ROUGH);
  }

  static void promise11_roughAheadOfOver() {
    LakeChain x = rough();
    due("policy(1, 0, 0), of the last week", x.policy(1, 0, 0), ROUGH);
    x.node(0, 1, 0);
    due("policy(1, 0, 0)", x.policy(1, 0, 0), OVER);
  }

  static void promise11_over() {
    LakeChain x = Edges.fork();
    for (int n = 0; n <= 5; n++) due("policy(" + n + ", 9, 0)", x.policy(n, 9, 0), n < 3 ? 3 : OVER);
  }

  static void promise11_badAheadOfOver() {
    LakeChain x = Edges.fork();
    due("policy(5, 10, 0)", x.policy(5, 10, 0), BAD);
    due("policy(5, 0, 1)", x.policy(5, 0, 1), BAD);
  }

  static void promise11_allAsGood() {
    LakeChain x = Edges.chain(0, 1, 1, 1);
    x.price(0, 0);
    for (int lake = 0; lake < 3; lake++) due("policy(0, 7, " + lake + ")", x.policy(0, 7, lake), 0);
  }

  static void promise11_allAsGoodButTheFish() {
    LakeChain x = Edges.one(0, 9, 9, 4, 0);
    x.price(0, 0);
    due("policy(0, 9, 0)", x.policy(0, 9, 0), 4);
    due("policy(0, 2, 0)", x.policy(0, 2, 0), 2);
  }

  static void promise11_keptIsAsGoodAsLet() {
    LakeChain x = Edges.one(0, 9, 9, 0, 0);
    x.end(0, 1);
    due("policy(0, 9, 0)", x.policy(0, 9, 0), 0);
    x.price(0, 2);
    due("policy(0, 9, 0)", x.policy(0, 9, 0), 9);
  }

  static void promise11_onlyWhatWouldSpillIsLet() {
    LakeChain x = Edges.one(0, 9, 9, 0, 4);
    x.end(0, 1);
    // of the 13 that are there or come 4 spill: to let 4 is as good as to let more
    due("policy(0, 9, 0)", x.policy(0, 9, 0), 4);
    due("policy(0, 6, 0)", x.policy(0, 6, 0), 1);
    due("policy(0, 5, 0)", x.policy(0, 5, 0), 0);
  }

  static void promise11_lake0sIsTheLeast() {
    LakeChain x = new LakeChain();
    x.lake(0, 1, 2, 0);
    x.lake(0, 3, 2, 0);
    x.end(0, 3);
    x.end(1, 1);
    x.head(1, 3, 2);
    x.weeks(2, 1);
    x.price(0, 2);
    x.node(0, 1, 0);
    x.node(1, 1, 0);
    // from (1, 2): (0, 2): 4, then 3 are kept; (1, 0): 2, then 2 at head 2 and 1 kept; (1, 2): 6, then 1
    due("worth(0, 6)", x.worth(0, 6), 7);
    due("policy(0, 6, 0)", x.policy(0, 6, 0), 0);
    due("policy(0, 6, 1)", x.policy(0, 6, 1), 2);
  }

  static void promise11_thenLake1s() {
    LakeChain x = new LakeChain();
    x.lake(0, 1, 1, 0);
    x.lake(0, 3, 1, 0);
    x.lake(0, 3, 1, 0);
    x.end(1, 2);
    x.head(1, 3, 2);
    x.head(2, 3, 2);
    x.weeks(3, 1);
    for (int i = 0; i < 3; i++) x.node(i, 1, 0);
    // from (0, 3, 2) lets (0, 0, 1), (0, 1, 0) and (0, 1, 1) are worth 9
    due("worth(0, 14)", x.worth(0, 14), 9);
    int[] wants = {0, 0, 1};
    for (int lake = 0; lake < 3; lake++) due("policy(0, 14, " + lake + ")", x.policy(0, 14, lake), wants[lake]);
  }

  static void promise11_lake0sAheadOfTheOthersTogether() {
    LakeChain x = new LakeChain();
    x.lake(0, 1, 2, 0);
    x.lake(0, 2, 2, 0);
    x.lake(0, 1, 2, 0);
    x.end(0, 1);
    x.end(1, 2);
    x.head(0, 1, 3);
    x.head(1, 2, 2);
    x.head(2, 1, 2);
    x.weeks(2, 1);
    x.price(0, 2);
    x.price(1, 2);
    x.node(0, 1, 0);
    x.node(1, 1, 0);
    // from (1, 1, 1) lets (0, 1, 1), (1, 0, 0), (1, 0, 1) and (1, 1, 1) are worth 18
    due("worth(0, 9)", x.worth(0, 9), 18);
    int[] wants = {0, 1, 1};
    for (int lake = 0; lake < 3; lake++) due("policy(0, 9, " + lake + ")", x.policy(0, 9, lake), wants[lake]);
  }

  static void promise11_theGreatestLetOf10() {
    LakeChain x = Edges.one(0, 30, 10, 0, 0);
    due("policy(0, 30, 0)", x.policy(0, 30, 0), 10);
    due("policy(0, 10, 0)", x.policy(0, 10, 0), 10);
    due("policy(0, 9, 0)", x.policy(0, 9, 0), 9);
  }

  // ---- 12 water

  static void promise12_noSuchNode() {
    LakeChain x = Edges.fork();
    for (int n : new int[] {-1, 6, MIN, MAX}) due("water(" + n + ", 0, 0)", x.water(n, 0, 0), NO);
    due("water(5, 0, 0)", x.water(5, 0, 0), 0);
  }

  static void promise12_noSuchState() {
    LakeChain x = Edges.fork();
    for (int s : new int[] {-1, 10, 11, MIN, MAX}) due("water(0, " + s + ", 0)", x.water(0, s, 0), NO);
    due("water(0, 0, 0): 10 less 6", x.water(0, 0, 0), 4);
  }

  static void promise12_noSuchLake() {
    LakeChain x = Edges.chain(0, 1, 1);
    for (int lake : new int[] {-1, 2, 3, MIN, MAX}) due("water(0, 0, " + lake + ")", x.water(0, 0, lake), NO);
    due("water(0, 0, 1)", x.water(0, 0, 1), 1);
  }

  static void promise12_full() {
    LakeChain x = Edges.one(0, 9, 10, 0, 0);
    due("water(0, 9, 0)", x.water(0, 9, 0), NO);
    due("water(0, 8, 0)", x.water(0, 8, 0), 1);
    due("water(1, 9, 0), in the last week", x.water(1, 9, 0), NO);
    due("water(1, 8, 0)", x.water(1, 8, 0), 0);
  }

  static void promise12_fullIsAskedOfThatLakeAlone() {
    LakeChain x = Edges.chain(0, 1, 2, 1);
    x.end(0, 3);
    x.end(1, 5);
    x.end(2, 7);
    // (1, 0, 0), (0, 2, 0), (0, 0, 1)
    long[][] wants = {{6, NO, 5, 7}, {4, 3, NO, 7}, {1, 3, 5, NO}};
    for (long[] w : wants) {
      for (int lake = 0; lake < 3; lake++) {
        due("water(1, " + w[0] + ", " + lake + ")", x.water(1, (int) w[0], lake), w[lake + 1]);
      }
    }
  }

  static void promise12_aLakeOfGreatest0IsAlwaysFull() {
    LakeChain x = Edges.chain(0, 0, 2);
    due("water(0, 0, 0)", x.water(0, 0, 0), NO);
    due("water(0, 0, 1)", x.water(0, 0, 1), 1);
  }

  static void promise12_rough() {
    LakeChain x = rough();
    due("water(0, 0, 0)", x.water(0, 0, 0), NO);
    due("water(1, 0, 0)", x.water(1, 0, 0), NO);
    x.node(0, 1, 0);
    due("water(0, 0, 0)", x.water(0, 0, 0), 2);
  }

  static void promise12_behindTheLastWeekItIsTheEnd() {
    LakeChain x = Edges.one(0, 9, 10, 0, 0);
    x.end(0, 99);
    for (int m = 0; m < 9; m++) due("water(1, " + m + ", 0)", x.water(1, m, 0), 99);
  }

  static void promise12_nothingIfItWouldSpill() {
    LakeChain x = Edges.one(0, 9, 0, 0, 9);
    x.end(0, 5);
    due("water(0, 0, 0)", x.water(0, 0, 0), 0);
    LakeChain y = Edges.one(0, 9, 0, 0, 8);
    y.end(0, 5);
    due("water(0, 0, 0)", y.water(0, 0, 0), 5);
    due("water(0, 1, 0)", y.water(0, 1, 0), 0);
  }

  // ---- 13 needs

  static void promise13_noSuchNode() {
    LakeChain x = Edges.fork();
    for (int n : new int[] {-1, 6, MIN, MAX}) due("needs(" + n + ", 0)", x.needs(n, 0), BAD);
    due("needs(5, 0)", x.needs(5, 0), 0);
  }

  static void promise13_badAheadOfRough() {
    LakeChain x = rough();
    due("needs(2, 0)", x.needs(2, 0), BAD);
    due("needs(1, 0)", x.needs(1, 0), ROUGH);
    due("needs(0, the most)", x.needs(0, Long.MAX_VALUE), ROUGH);
  }

  static void promise13_atLeastV() {
    LakeChain x = Edges.one(0, 9, 0, 0, 0);
    x.end(0, 10);
    due("needs(0, 30)", x.needs(0, 30), 3);
    due("needs(0, 31)", x.needs(0, 31), 4);
    due("needs(0, 29)", x.needs(0, 29), 3);
    due("needs(1, 30), of the last week", x.needs(1, 30), 3);
  }

  static void promise13_noneIs() {
    LakeChain x = Edges.one(0, 9, 0, 0, 0);
    x.end(0, 10);
    due("needs(0, 90): the last state", x.needs(0, 90), 9);
    due("needs(0, 91)", x.needs(0, 91), Edges.NONE);
    due("needs(0, the most)", x.needs(0, Long.MAX_VALUE), Edges.NONE);
  }

  static void promise13_vMayBe0OrLess() {
    LakeChain x = Edges.chain(0, 2, 2);
    due("needs(0, 0)", x.needs(0, 0), 0);
    due("needs(0, -1)", x.needs(0, -1), 0);
    due("needs(0, the least)", x.needs(0, Long.MIN_VALUE), 0);
    due("needs(0, -9000000000000000000)", x.needs(0, NO), 0);
  }

  static void promise13_theLeastSumAheadOfTheLeastNumber() {
    LakeChain x = Edges.chain(0, 3, 3);
    x.end(0, 2);
    x.end(1, 1);
    // at 1: 2 for (0, 2) = 2, a sum of 2, and for (1, 0) = 4, a sum of 1
    due("needs(1, 2)", x.needs(1, 2), 4);
    due("needs(1, 3): (1, 1), not (0, 3)", x.needs(1, 3), 5);
    due("needs(1, 4): (2, 0)", x.needs(1, 4), 8);
  }

  static void promise13_ofSeveralTheLeastNumber() {
    LakeChain x = Edges.chain(0, 3, 3, 3);
    for (int i = 0; i < 3; i++) x.end(i, 1);
    due("needs(1, 1): (0, 0, 1)", x.needs(1, 1), 1);
    due("needs(1, 2): (0, 0, 2), not (0, 1, 1)", x.needs(1, 2), 2);
    due("needs(1, 4): (0, 1, 3)", x.needs(1, 4), 7);
    due("needs(1, 9): (3, 3, 3)", x.needs(1, 9), 63);
    due("needs(1, 10)", x.needs(1, 10), Edges.NONE);
  }

  static void promise13_vIsToldAsWorthIs() {
    LakeChain x = Edges.fork();
    // worth(0, 0) is 6 and worth(0, 1) is 10, times 4
    due("needs(0, 6)", x.needs(0, 6), 0);
    due("needs(0, 7)", x.needs(0, 7), 1);
    due("needs(0, 10)", x.needs(0, 10), 1);
    due("needs(0, 24)", x.needs(0, 24), 6);
    due("needs(0, 25)", x.needs(0, 25), Edges.NONE);
  }

  static void promise13_ofAllTheStates() {
    LakeChain x = Edges.chain(0, 9, 9, 9);
    for (int i = 0; i < 3; i++) x.end(i, 99);
    due("needs(1, 2673)", x.needs(1, 2673), 999);
    due("needs(1, 2674)", x.needs(1, 2674), Edges.NONE);
    LakeChain z = Edges.chain(0, 30, 30, 0);
    for (int i = 0; i < 2; i++) z.end(i, 1);
    due("needs(1, 60), the greatest sum", z.needs(1, 60), 960);
    due("needs(1, 61)", z.needs(1, 61), Edges.NONE);
    LakeChain y = Edges.chain(0, 0);
    due("needs(0, 0), one state", y.needs(0, 0), 0);
    due("needs(0, 1), one state", y.needs(0, 1), Edges.NONE);
  }
}
