/** The boundary cases of promises 14 to 19, a test for each sentence of the document that names one. */
public final class RuleEdgeTest {
  private static final int MIN = Edges.MIN, MAX = Edges.MAX;
  private static final int BAD = Edges.BAD, ROUGH = Edges.ROUGH;
  private static final long NO = Edges.NO;

  public static void main(String[] args) throws IllegalAccessException {
    Edges.go(RuleEdgeTest.class, 14, 19);
  }

  private static void due(String call, long got, long want) {
    Edges.due(call, got, want);
  }

  /** One lake (0 .. 4), two parts, of one of which there is a node of the last week: the tree is rough. */
  private static LakeChain rough() {
    LakeChain x = new LakeChain();
    x.lake(0, 4, 2, 0);
    x.weeks(1, 2);
    x.node(0, 1, 0);
    return x;
  }

  /** The fork with a rule that lets nothing: what comes about is told by the inflows alone. */
  private static LakeChain still() {
    LakeChain x = Edges.fork();
    x.rule(0, 30, 0);
    return x;
  }

  // ---- 14 rule

  static void promise14_noSuchLake() {
    LakeChain x = Edges.chain(0, 1, 1);
    for (int lake : new int[] {-1, 2, 3, MIN, MAX}) due("rule(" + lake + ", 0, 0)", x.rule(lake, 0, 0), BAD);
    due("rule(1, 0, 0)", x.rule(1, 0, 0), 1);
  }

  static void promise14_a0To30() {
    LakeChain x = Edges.one(0, 4, 4, 0, 0);
    for (int a : new int[] {-1, 31, MIN, MAX}) due("rule(0, " + a + ", 0)", x.rule(0, a, 0), BAD);
    due("rule(0, 0, 30)", x.rule(0, 0, 30), 1);
    due("mean(0, 4)", x.mean(0, 4), 4);
    due("rule(0, 30, 30), above the greatest", x.rule(0, 30, 30), 1);
    due("mean(0, 4)", x.mean(0, 4), 0);
  }

  static void promise14_b0To30() {
    LakeChain x = Edges.one(0, 30, 10, 0, 0);
    for (int b : new int[] {-1, 31, MIN, MAX}) due("rule(0, 0, " + b + ")", x.rule(0, 0, b), BAD);
    due("rule(0, 0, 0)", x.rule(0, 0, 0), 1);
    due("mean(0, 30)", x.mean(0, 30), 0);
    due("rule(0, 0, 30)", x.rule(0, 0, 30), 1);
    due("mean(0, 30)", x.mean(0, 30), 10);
  }

  static void promise14_0And30AtFirst() {
    LakeChain x = Edges.one(0, 30, 10, 0, 0);
    for (int m : new int[] {0, 1, 9, 10, 11, 30}) due("mean(0, " + m + ")", x.mean(0, m), Math.min(m, 10));
  }

  static void promise14_whatIsThereBeyondA() {
    LakeChain x = Edges.one(0, 9, 9, 0, 0);
    x.rule(0, 4, 30);
    int[] wants = {0, 0, 0, 0, 0, 1, 2, 3, 4, 5};
    for (int m = 0; m < wants.length; m++) due("mean(0, " + m + ")", x.mean(0, m), wants[m]);
  }

  static void promise14_butBAtMost() {
    LakeChain x = Edges.one(0, 9, 9, 0, 0);
    x.rule(0, 2, 3);
    int[] wants = {0, 0, 0, 1, 2, 3, 3, 3, 3, 3};
    for (int m = 0; m < wants.length; m++) due("mean(0, " + m + ")", x.mean(0, m), wants[m]);
  }

  static void promise14_madeNoLessThanMayBe() {
    LakeChain x = Edges.one(0, 9, 9, 2, 0);
    x.rule(0, 30, 0);
    int[] wants = {0, 1, 2, 2, 2};
    for (int m = 0; m < wants.length; m++) due("mean(0, " + m + ")", x.mean(0, m), wants[m]);
  }

  static void promise14_madeNoMoreThanMayBe() {
    LakeChain x = Edges.one(3, 9, 4, 0, 0);
    int[] wants = {0, 0, 0, 0, 1, 2, 3, 4, 4, 4};
    for (int m = 0; m < wants.length; m++) due("mean(0, " + m + ")", x.mean(0, m), wants[m]);
  }

  static void promise14_madeNoMoreThanTheFishsAboveTheLimit() {
    LakeChain x = Edges.one(5, 9, 1, 3, 0);
    int[] wants = {0, 1, 2, 3, 3, 3, 3, 3, 3, 3};
    for (int m = 0; m < wants.length; m++) due("mean(0, " + m + ")", x.mean(0, m), wants[m]);
  }

  static void promise14_eachLakeItsOwn() {
    LakeChain x = Edges.chain(0, 9, 9);
    x.rule(1, 30, 0);
    due("mean(0, 99): lake 0 alone", x.mean(0, 99), 9);
    x.rule(0, 5, 30);
    x.rule(1, 0, 2);
    due("mean(0, 99): 4 and 2", x.mean(0, 99), 6);
  }

  static void promise14_inARunToo() {
    LakeChain x = still();
    x.begin(9);
    due("rule(0, 0, 2)", x.rule(0, 0, 2), 1);
    due("ruled(0)", x.ruled(0), 2);
    due("rule(0, 0, 31)", x.rule(0, 0, 31), BAD);
    due("ruled(0)", x.ruled(0), 2);
  }

  static void promise14_inARoughTreeToo() {
    LakeChain x = rough();
    due("rule(0, 0, 1)", x.rule(0, 0, 1), 1);
    x.node(0, 1, 0);
    due("mean(0, 4)", x.mean(0, 4), 2);
  }

  static void promise14_refusedChangesNothing() {
    LakeChain x = Edges.one(0, 9, 9, 0, 0);
    x.rule(0, 4, 3);
    x.rule(0, 31, 9);
    x.rule(0, 0, 31);
    x.rule(0, -1, 9);
    x.rule(0, 0, -1);
    x.rule(1, 0, 9);
    due("mean(0, 9)", x.mean(0, 9), 3);
    due("mean(0, 5)", x.mean(0, 5), 1);
  }

  // ---- 15 mean

  static void promise15_noSuchNodeOrState() {
    LakeChain x = Edges.fork();
    for (int n : new int[] {-1, 6, MIN, MAX}) due("mean(" + n + ", 0)", x.mean(n, 0), NO);
    for (int s : new int[] {-1, 10, MIN, MAX}) due("mean(0, " + s + ")", x.mean(0, s), NO);
    due("mean(5, 9)", x.mean(5, 9), 0);
  }

  static void promise15_rough() {
    LakeChain x = rough();
    due("mean(0, 4)", x.mean(0, 4), NO);
    due("mean(1, 4), of the last week", x.mean(1, 4), NO);
    x.node(0, 1, 0);
    due("mean(0, 4)", x.mean(0, 4), 4);
  }

  static void promise15_ofTheLastWeekTheEnd() {
    LakeChain x = Edges.chain(99, 2, 3);
    x.end(0, 10);
    x.end(1, 1);
    due("mean(1, 0)", x.mean(1, 0), 0);
    due("mean(1, 11): (2, 3)", x.mean(1, 11), 23);
  }

  static void promise15_timesDToThePowerOfTheWeeksLeft() {
    LakeChain x = new LakeChain();
    x.lake(0, 30, 0, 0);
    x.end(0, 99);
    x.weeks(10, 6);
    for (int i = 0; i < 10; i++) x.node(i, 6, 0);
    long power = 1;
    for (int i = 10; i >= 0; i--, power *= 6) due("mean(" + i + ", 30)", x.mean(i, 30), power * 2970);
  }

  static void promise15_byWeights() {
    LakeChain x = new LakeChain();
    x.lake(0, 9, 0, 0);
    x.end(0, 1);
    x.weeks(2, 3);
    x.node(0, 2, 1);
    x.node(0, 1, 4);
    x.node(1, 3, 0);
    x.node(2, 1, 2);
    x.node(2, 2, 0);
    due("mean(0, 0): 2 * 3 * 1 and 1 * (6 and 2 * 4)", x.mean(0, 0), 20);
    due("mean(2, 0): 2 once, 0 twice", x.mean(2, 0), 2);
  }

  static void promise15_theRuleNotTheBest() {
    LakeChain x = Edges.one(0, 9, 9, 0, 0);
    x.end(0, 5);
    due("worth(0, 9)", x.worth(0, 9), 45);
    due("mean(0, 9)", x.mean(0, 9), 9);
    x.rule(0, 9, 30);
    due("mean(0, 9)", x.mean(0, 9), 45);
  }

  static void promise15_theRuleGoesByWhatIsThereThen() {
    LakeChain x = Edges.fork();
    x.rule(0, 5, 30);
    // from 7: 2 now; dry: 5, then 0; wet: 9, then 3: 4 * 2 and 2 * 0 and 2 * 3
    due("mean(0, 7)", x.mean(0, 7), 14);
  }

  // ---- 16 worst

  static void promise16_noSuchNodeOrState() {
    LakeChain x = Edges.fork();
    for (int n : new int[] {-1, 6, MIN, MAX}) due("worst(" + n + ", 0)", x.worst(n, 0), NO);
    for (int s : new int[] {-1, 10, MIN, MAX}) due("worst(0, " + s + ")", x.worst(0, s), NO);
    due("worst(5, 9)", x.worst(5, 9), 0);
  }

  static void promise16_rough() {
    LakeChain x = rough();
    due("worst(0, 4)", x.worst(0, 4), NO);
    due("worst(1, 4), of the last week", x.worst(1, 4), NO);
    x.node(0, 1, 0);
    due("worst(0, 4)", x.worst(0, 4), 2);
  }

  static void promise16_ofTheLastWeekTheEnd() {
    LakeChain x = Edges.fork();
    x.end(0, 7);
    due("worst(3, 9)", x.worst(3, 9), 63);
    due("worst(3, 0)", x.worst(3, 0), 0);
  }

  static void promise16_notTimesAnything() {
    LakeChain x = new LakeChain();
    x.lake(0, 30, 0, 0);
    x.end(0, 99);
    x.weeks(10, 6);
    for (int i = 0; i < 10; i++) x.node(i, 6, 0);
    for (int i = 10; i >= 0; i--) due("worst(" + i + ", 30)", x.worst(i, 30), 2970);
  }

  static void promise16_theLeastInAnyCase() {
    int[][] orders = {{1, 5, 9}, {5, 1, 9}, {9, 5, 1}};
    for (int[] order : orders) {
      LakeChain x = new LakeChain();
      x.lake(0, 9, 0, 0);
      x.end(0, 1);
      x.weeks(1, 6);
      x.node(0, 1, order[0]);
      x.node(0, 3, order[1]);
      x.node(0, 2, order[2]);
      due("worst(0, 0)", x.worst(0, 0), 1);
      due("worst(1, 4), of the last week", x.worst(1, 4), 4);
    }
  }

  static void promise16_onlyCasesFromThatNodeOn() {
    LakeChain x = still();
    x.end(0, 1);
    due("worst(0, 0)", x.worst(0, 0), 0);
    due("worst(1, 0)", x.worst(1, 0), 0);
    due("worst(2, 0)", x.worst(2, 0), 1);
  }

  static void promise16_theEndCountsToo() {
    LakeChain x = Edges.fork();
    x.end(0, 20);
    x.rule(0, 5, 30);
    // from 6: 1 now; dry: 5, 0 let, 5 or 9 at the end; wet: 9, 3 let, 7 at the end
    due("worst(0, 6)", x.worst(0, 6), 1 + 5 * 20);
    due("worst(2, 9)", x.worst(2, 9), 3 + 7 * 20);
  }

  static void promise16_nothingComesAbout() {
    LakeChain x = Edges.one(0, 9, 9, 0, 0);
    due("worst(0, 0)", x.worst(0, 0), 0);
  }

  // ---- 17 lack

  /** Least 3 of 9, and the rule lets all above it; the fork's inflows: dry, then 0 or 5; wet (4), then 1. */
  private static LakeChain thirsty() {
    LakeChain x = new LakeChain();
    x.lake(3, 9, 9, 0);
    x.weeks(2, 2);
    x.node(0, 1, 0);
    x.node(0, 1, 4);
    x.node(1, 1, 0);
    x.node(1, 1, 5);
    x.node(2, 2, 1);
    return x;
  }

  static void promise17_noSuchNodeOrState() {
    LakeChain x = thirsty();
    for (int n : new int[] {-1, 6, MIN, MAX}) due("lack(" + n + ", 0)", x.lack(n, 0), BAD);
    for (int s : new int[] {-1, 10, MIN, MAX}) due("lack(0, " + s + ")", x.lack(0, s), BAD);
    due("lack(0, 9)", x.lack(0, 9), 0);
  }

  static void promise17_badAheadOfRough() {
    LakeChain x = rough();
    due("lack(2, 0)", x.lack(2, 0), BAD);
    due("lack(0, 5)", x.lack(0, 5), BAD);
    due("lack(0, 0)", x.lack(0, 0), ROUGH);
    due("lack(1, 0), of the last week", x.lack(1, 0), ROUGH);
  }

  static void promise17_atTheLeastIsNotBelowIt() {
    LakeChain x = thirsty();
    due("lack(0, 3)", x.lack(0, 3), 0);
    due("lack(0, 2): both dry cases", x.lack(0, 2), 2);
  }

  static void promise17_theFirstStateDoesNotCount() {
    LakeChain x = Edges.one(3, 9, 9, 0, 1);
    due("lack(0, 2): 3 behind the week", x.lack(0, 2), 0);
    due("lack(0, 1): 2 behind the week", x.lack(0, 1), 1);
    LakeChain y = thirsty();
    due("lack(2, 2): 3 behind the week", y.lack(2, 2), 0);
  }

  static void promise17_someTimeIsEnough() {
    LakeChain x = thirsty();
    // from 2, dry: 2 behind week 0, and 7 behind week 1 if 5 come: it was below
    due("lack(0, 2)", x.lack(0, 2), 2);
    due("lack(1, 2): 2, or 7", x.lack(1, 2), 1);
  }

  static void promise17_behindTheLastWeekToo() {
    LakeChain x = new LakeChain();
    x.lake(3, 9, 9, 1);
    x.weeks(2, 1);
    x.node(0, 1, 0);
    x.node(1, 1, 0);
    x.rule(0, 30, 0);
    due("lack(0, 5): 4, 3", x.lack(0, 5), 0);
    due("lack(0, 4): 3, 2", x.lack(0, 4), 1);
  }

  static void promise17_ofTheLastWeekNoTimeIsLeft() {
    LakeChain x = thirsty();
    for (int n = 3; n <= 5; n++) due("lack(" + n + ", 0)", x.lack(n, 0), 0);
  }

  static void promise17_casesNotWeights() {
    LakeChain x = thirsty();
    due("lack(2, 1): one case of weight 2", x.lack(2, 1), 1);
    due("lack(1, 0): one of two", x.lack(1, 0), 1);
  }

  static void promise17_allCases() {
    LakeChain x = new LakeChain();
    x.lake(1, 1, 0, 0);
    x.weeks(2, 6);
    for (int i = 0; i < 6; i++) x.node(0, 1, 0);
    for (int i = 0; i < 36; i++) x.node(1 + i / 6, 1, 0);
    due("lack(0, 0)", x.lack(0, 0), 36);
    due("lack(0, 1)", x.lack(0, 1), 0);
  }

  static void promise17_someLake() {
    LakeChain x = new LakeChain();
    for (int i = 0; i < 3; i++) x.lake(1, 2, 0, 0);
    x.node(0, 1, 0);
    int[] states = {1 * 9 + 1 * 3 + 1, 0 * 9 + 1 * 3 + 1, 1 * 9 + 0 * 3 + 1, 1 * 9 + 1 * 3 + 0};
    for (int i = 0; i < 4; i++) due("lack(0, " + states[i] + ")", x.lack(0, states[i]), i == 0 ? 0 : 1);
    due("lack(0, 0): once, though all lack", x.lack(0, 0), 1);
  }

  static void promise17_leastOf0IsNeverLacked() {
    LakeChain x = Edges.one(0, 9, 9, 5, 0);
    due("lack(0, 0)", x.lack(0, 0), 0);
    due("lack(0, 5)", x.lack(0, 5), 0);
  }

  // ---- 18 flood

  static void promise18_noSuchState() {
    LakeChain x = still();
    for (int s : new int[] {-1, 10, MIN, MAX}) due("flood(" + s + ", 0, 0, 0)", x.flood(s, 0, 0, 0), BAD);
    due("flood(9, 0, 0, 0)", x.flood(9, 0, 0, 0), 3);
  }

  static void promise18_noSuchLake() {
    LakeChain x = Edges.chain(0, 1, 1);
    for (int lake : new int[] {-1, 2, 3, MIN, MAX}) {
      due("flood(0, " + lake + ", 0, 0)", x.flood(0, lake, 0, 0), BAD);
    }
    due("flood(0, 1, 0, 0)", x.flood(0, 1, 0, 0), 0);
  }

  static void promise18_m0ToGreatest() {
    LakeChain x = still();
    for (int m : new int[] {-1, 10, 30, MIN, MAX}) due("flood(9, 0, " + m + ", 0)", x.flood(9, 0, m, 0), BAD);
    due("flood(1, 0, 0, 0)", x.flood(1, 0, 0, 0), 3);
    due("flood(9, 0, 9, 0): never more than the greatest", x.flood(9, 0, 9, 0), 0);
    due("flood(9, 0, 8, 0)", x.flood(9, 0, 8, 0), 3);
  }

  static void promise18_weekBelowW() {
    LakeChain x = still();
    for (int week : new int[] {-1, 2, 9, 10, MIN, MAX}) {
      due("flood(9, 0, 0, " + week + ")", x.flood(9, 0, 0, week), BAD);
    }
    due("flood(9, 0, 0, 1)", x.flood(9, 0, 0, 1), 3);
    LakeChain y = new LakeChain();
    y.lake(0, 9, 0, 0);
    y.weeks(10, 1);
    for (int i = 0; i < 10; i++) y.node(i, 1, i == 9 ? 1 : 0);
    for (int week = 0; week < 10; week++) {
      due("flood(0, 0, 0, " + week + ")", y.flood(0, 0, 0, week), week == 9 ? 1 : 0);
    }
    due("flood(0, 0, 0, 10)", y.flood(0, 0, 0, 10), BAD);
  }

  static void promise18_badAheadOfRough() {
    LakeChain x = rough();
    due("flood(5, 0, 0, 0)", x.flood(5, 0, 0, 0), BAD);
    due("flood(0, 1, 0, 0)", x.flood(0, 1, 0, 0), BAD);
    due("flood(0, 0, 5, 0)", x.flood(0, 0, 5, 0), BAD);
    due("flood(0, 0, 0, 1)", x.flood(0, 0, 0, 1), BAD);
    due("flood(4, 0, 4, 0)", x.flood(4, 0, 4, 0), ROUGH);
  }

  static void promise18_moreThanMNotAsMuch() {
    LakeChain x = still();
    // from 2 behind week 0: 2 (two cases) or 6 (one)
    int[] wants = {3, 3, 1, 1, 1, 1, 0, 0, 0, 0};
    for (int m = 0; m < wants.length; m++) due("flood(2, 0, " + m + ", 0)", x.flood(2, 0, m, 0), wants[m]);
  }

  static void promise18_behindThatWeek() {
    LakeChain x = still();
    // from 2 behind week 1: 2, 7, 7
    int[] wants = {3, 3, 2, 2, 2, 2, 2, 0, 0, 0};
    for (int m = 0; m < wants.length; m++) due("flood(2, 0, " + m + ", 1)", x.flood(2, 0, m, 1), wants[m]);
    x.rule(0, 0, 30);
    due("flood(3, 0, 0, 0): 3 are let, so but the wet case", x.flood(3, 0, 0, 0), 1);
  }

  static void promise18_whatSpilledIsNotThere() {
    LakeChain x = Edges.chain(95, 4, 9);
    x.rule(0, 30, 0);
    x.rule(1, 30, 0);
    // (0, 0): 9 in lake 0, of which 5 spill on into lake 1, where 5 came
    due("flood(0, 0, 3, 0)", x.flood(0, 0, 3, 0), 1);
    due("flood(0, 0, 4, 0)", x.flood(0, 0, 4, 0), 0);
    due("flood(0, 1, 8, 0)", x.flood(0, 1, 8, 0), 1);
    due("flood(0, 1, 9, 0)", x.flood(0, 1, 9, 0), 0);
  }

  static void promise18_casesNotWeights() {
    LakeChain x = new LakeChain();
    x.lake(0, 9, 0, 0);
    x.weeks(1, 6);
    x.node(0, 5, 3);
    x.node(0, 1, 0);
    due("flood(0, 0, 2, 0)", x.flood(0, 0, 2, 0), 1);
  }

  // ---- 19 cases

  static void promise19_noSuchNode() {
    LakeChain x = Edges.fork();
    for (int n : new int[] {-1, 6, 80, 81, MIN, MAX}) due("cases(" + n + ")", x.cases(n), BAD);
    due("cases(5)", x.cases(5), 1);
  }

  static void promise19_badAheadOfRough() {
    LakeChain x = rough();
    due("cases(2)", x.cases(2), BAD);
    due("cases(-1)", x.cases(-1), BAD);
    due("cases(1), of the last week", x.cases(1), ROUGH);
    due("cases(0)", x.cases(0), ROUGH);
    LakeChain y = new LakeChain();
    y.node(0, 1, 0);
    due("cases(0) without a lake", y.cases(0), ROUGH);
  }

  static void promise19_ofTheLastWeekOne() {
    LakeChain x = Edges.fork();
    for (int n = 3; n <= 5; n++) due("cases(" + n + ")", x.cases(n), 1);
  }

  static void promise19_waysNotWeights() {
    LakeChain x = Edges.fork();
    due("cases(0)", x.cases(0), 3);
    due("cases(1)", x.cases(1), 2);
    due("cases(2): one child of weight 2", x.cases(2), 1);
  }

  static void promise19_36Ways() {
    LakeChain x = new LakeChain();
    x.lake(0, 1, 0, 0);
    x.weeks(2, 6);
    for (int i = 0; i < 6; i++) x.node(0, 1, 0);
    for (int i = 0; i < 36; i++) x.node(1 + i / 6, 1, 0);
    due("cases(0)", x.cases(0), 36);
    due("cases(6)", x.cases(6), 6);
  }

  static void promise19_80NodesAndWhole() {
    LakeChain x = new LakeChain();
    x.lake(0, 1, 0, 0);
    x.weeks(10, 6);
    int[] ends = new int[6];
    for (int i = 0; i < 6; i++) ends[i] = x.node(0, 1, 0);
    for (int week = 1; week < 9; week++) {
      for (int i = 0; i < 6; i++) ends[i] = x.node(ends[i], 6, 0);
    }
    // 54 nodes stand; 26 of the last week: 6, 6, 6, 6, 1, 1
    for (int i = 0; i < 24; i++) x.node(ends[i / 6], 1, 0);
    x.node(ends[4], 6, 0);
    due("the 80th node", x.node(ends[5], 6, 0), 80);
    due("count(6)", x.count(6), 1);
    due("cases(0)", x.cases(0), 26);
    due("cases(80)", x.cases(80), 1);
    due("worth(0, 1)", x.worth(0, 1), 0);
  }
}
