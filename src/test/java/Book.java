import java.util.ArrayList;
import java.util.HashMap;
import java.util.List;
import java.util.Map;

/**
 * The document once more, word by word and without a thought for speed: states are rows of measures,
 * cases are lists of ways. BookTest asks it and LakeChain the same.
 */
final class Book {
  static final long NO = -9000000000000000000L;

  static final class L {
    int least, greatest, limit, fish, end, a = 0, b = 30;
    int[] heads;
  }

  static final class N {
    N parent;
    int number, weight, week;
    int[] in;
    final List<N> children = new ArrayList<>();
  }

  static final class Moment {
    N node;
    int[] state;
    int earned, spilled, out, in;
  }

  final List<L> lakes = new ArrayList<>();
  final List<N> nodes = new ArrayList<>();
  final int[] prices = {1, 1, 1, 1, 1, 1, 1, 1, 1, 1};
  int w = 1, d = 1;
  List<Moment> run = null;
  private final Map<Integer, Long> memo = new HashMap<>();

  Book() {
    nodes.add(beginning());
  }

  private static N beginning() {
    N n = new N();
    n.week = -1;
    n.in = new int[3];
    return n;
  }

  private boolean lakeIs(int l) {
    return l >= 0 && l < lakes.size();
  }

  private boolean nodeIs(int n) {
    return n >= 0 && n < nodes.size();
  }

  private boolean stateIs(int s) {
    return s >= 0 && s < states();
  }

  int states() {
    int product = 1;
    for (L l : lakes) product *= l.greatest + 1;
    return product;
  }

  private boolean whole() {
    for (N n : nodes) {
      if (n.week < w - 1 && weights(n) != d) return false;
    }
    return !lakes.isEmpty();
  }

  private static int weights(N n) {
    int sum = 0;
    for (N c : n.children) sum += c.weight;
    return sum;
  }

  private int[] row(int state) {
    int[] row = new int[lakes.size()];
    for (int i = lakes.size() - 1; i >= 0; i--) {
      row[i] = state % (lakes.get(i).greatest + 1);
      state /= lakes.get(i).greatest + 1;
    }
    return row;
  }

  private int number(int[] row) {
    int number = 0;
    for (int i = 0; i < row.length; i++) number = number * (lakes.get(i).greatest + 1) + row[i];
    return number;
  }

  static int lo(L l, int m) {
    return m < l.fish ? m : l.fish;
  }

  static int hi(L l, int m) {
    int above = m - l.least;
    if (above < 0) above = 0;
    int most = l.limit < above ? l.limit : above;
    return most < lo(l, m) ? lo(l, m) : most;
  }

  private int earns(int[] row, int[] lets, int week) {
    int sum = 0;
    for (int i = 0; i < row.length; i++) sum += prices[week] * lakes.get(i).heads[row[i]] * lets[i];
    return sum;
  }

  /** The row behind the week; spilled[0] is raised by what spills. */
  private int[] behind(int[] row, int[] lets, N child, int[] spilled) {
    int[] next = row.clone();
    for (int i = 0; i < row.length; i++) {
      next[i] -= lets[i];
      if (i > 0) next[i] += lets[i - 1];
      next[i] += child.in[i];
    }
    for (int i = 0; i < row.length; i++) {
      int over = next[i] - lakes.get(i).greatest;
      if (over <= 0) continue;
      next[i] -= over;
      spilled[0] += over;
      if (i + 1 < row.length) next[i + 1] += over;
    }
    return next;
  }

  private List<int[]> allLets(int[] row) {
    List<int[]> all = new ArrayList<>();
    addLets(row, new int[row.length], 0, all);
    return all;
  }

  private void addLets(int[] row, int[] lets, int lake, List<int[]> all) {
    if (lake == row.length) {
      all.add(lets.clone());
      return;
    }
    L l = lakes.get(lake);
    for (int let = lo(l, row[lake]); let <= hi(l, row[lake]); let++) {
      lets[lake] = let;
      addLets(row, lets, lake + 1, all);
    }
  }

  private long endOf(int[] row) {
    long sum = 0;
    for (int i = 0; i < row.length; i++) sum += lakes.get(i).end * row[i];
    return sum;
  }

  private long power(int left) {
    long p = 1;
    for (int i = 0; i < left; i++) p *= d;
    return p;
  }

  private long value(N n, int[] row, int[] lets) {
    long sum = power(w - 1 - n.week) * earns(row, lets, n.week + 1);
    for (N c : n.children) sum += c.weight * worthOf(c, behind(row, lets, c, new int[1]));
    return sum;
  }

  private long worthOf(N n, int[] row) {
    if (n.week == w - 1) return endOf(row);
    int key = n.number * 1000 + number(row);
    Long known = memo.get(key);
    if (known != null) return known;
    long best = Long.MIN_VALUE;
    for (int[] lets : allLets(row)) best = Math.max(best, value(n, row, lets));
    memo.put(key, best);
    return best;
  }

  private int[] policyOf(N n, int[] row) {
    long worth = worthOf(n, row);
    for (int[] lets : allLets(row)) {
      if (value(n, row, lets) == worth) return lets;
    }
    throw new IllegalStateException();
  }

  private int[] ruleOf(int[] row) {
    int[] lets = new int[row.length];
    for (int i = 0; i < row.length; i++) {
      L l = lakes.get(i);
      int let = row[i] > l.a ? row[i] - l.a : 0;
      if (let > l.b) let = l.b;
      if (let < lo(l, row[i])) let = lo(l, row[i]);
      if (let > hi(l, row[i])) let = hi(l, row[i]);
      lets[i] = let;
    }
    return lets;
  }

  /** Every way from a node to the last week: the nodes behind it, in order. */
  private List<List<N>> ways(N n) {
    List<List<N>> all = new ArrayList<>();
    if (n.week == w - 1) {
      all.add(new ArrayList<>());
      return all;
    }
    for (N c : n.children) {
      for (List<N> rest : ways(c)) {
        List<N> way = new ArrayList<>();
        way.add(c);
        way.addAll(rest);
        all.add(way);
      }
    }
    return all;
  }

  /** The rows behind each week of a way by the rule; earned[0] is what it earns, the end too. */
  private List<int[]> gone(N from, int[] row, List<N> way, long[] earned) {
    List<int[]> rows = new ArrayList<>();
    for (N c : way) {
      int[] lets = ruleOf(row);
      earned[0] += earns(row, lets, c.week);
      row = behind(row, lets, c, new int[1]);
      rows.add(row);
    }
    earned[0] += endOf(row);
    return rows;
  }

  // ---- the face

  int lake(int least, int greatest, int limit, int fish) {
    if (least < 0 || greatest > 30 || least > greatest) return -1;
    if (limit < 0 || limit > 10 || fish < 0 || fish > 5) return -1;
    if (lakes.size() != 3 && states() * (greatest + 1) > 1000) return -1;
    if (run != null) return -2;
    if (lakes.size() == 3 || nodes.size() > 1) return -5;
    L l = new L();
    l.least = least;
    l.greatest = greatest;
    l.limit = limit;
    l.fish = fish;
    l.heads = new int[greatest + 1];
    for (int i = 0; i <= greatest; i++) l.heads[i] = 1;
    lakes.add(l);
    memo.clear();
    return lakes.size() - 1;
  }

  int head(int lake, int measure, int h) {
    if (!lakeIs(lake) || measure < 0 || measure > lakes.get(lake).greatest || h < 0 || h > 9) return -1;
    int[] heads = lakes.get(lake).heads;
    for (int i = 0; i < heads.length; i++) {
      if (i < measure && heads[i] > h || i > measure && heads[i] < h) return -1;
    }
    if (run != null) return -2;
    int was = heads[measure];
    heads[measure] = h;
    memo.clear();
    return was;
  }

  int end(int lake, int e) {
    if (!lakeIs(lake) || e < 0 || e > 99) return -1;
    if (run != null) return -2;
    int was = lakes.get(lake).end;
    lakes.get(lake).end = e;
    memo.clear();
    return was;
  }

  int weeks(int w, int d) {
    if (w < 1 || w > 10 || d < 1 || d > 6) return -1;
    if (run != null) return -2;
    this.w = w;
    this.d = d;
    nodes.clear();
    nodes.add(beginning());
    memo.clear();
    return 1;
  }

  int price(int week, int p) {
    if (week < 0 || week > 9 || p < 0 || p > 20) return -1;
    if (run != null) return -2;
    int was = prices[week];
    prices[week] = p;
    memo.clear();
    return was;
  }

  int node(int parent, int weight, int in) {
    if (!nodeIs(parent) || weight < 1 || weight > d || in < 0) return -1;
    if (in >= Math.round(Math.pow(10, lakes.size()))) return -1;
    N p = nodes.get(parent);
    if (p.week == w - 1 || weights(p) + weight > d) return -1;
    if (run != null) return -2;
    if (nodes.size() == 81) return -5;
    N n = new N();
    n.parent = p;
    n.number = nodes.size();
    n.weight = weight;
    n.week = p.week + 1;
    n.in = new int[3];
    for (int i = lakes.size() - 1; i >= 0; i--) {
      n.in[i] = in % 10;
      in /= 10;
    }
    p.children.add(n);
    nodes.add(n);
    memo.clear();
    return n.number;
  }

  int about(int node, int what) {
    if (!nodeIs(node) || what < 0 || what > 7) return -2;
    N n = nodes.get(node);
    if (what == 0) return n.parent == null ? -1 : n.parent.number;
    if (what == 1) return n.parent == null ? d : n.weight;
    if (what == 2) return n.week;
    if (what == 3) return n.children.size();
    if (what == 4) return weights(n);
    return lakeIs(what - 5) ? n.in[what - 5] : -2;
  }

  int count(int what) {
    int[] all = {lakes.size(), nodes.size(), states(), run != null ? 1 : 0, w, d, whole() ? 1 : 0};
    return what < 0 || what > 6 ? -1 : all[what];
  }

  long worth(int node, int state) {
    if (!nodeIs(node) || !stateIs(state) || !whole()) return NO;
    return worthOf(nodes.get(node), row(state));
  }

  int policy(int node, int state, int lake) {
    if (!nodeIs(node) || !stateIs(state) || !lakeIs(lake)) return -1;
    if (!whole()) return -3;
    if (nodes.get(node).week == w - 1) return -4;
    return policyOf(nodes.get(node), row(state))[lake];
  }

  long water(int node, int state, int lake) {
    if (!nodeIs(node) || !stateIs(state) || !lakeIs(lake) || !whole()) return NO;
    int[] more = row(state);
    if (more[lake] == lakes.get(lake).greatest) return NO;
    more[lake]++;
    return worthOf(nodes.get(node), more) - worthOf(nodes.get(node), row(state));
  }

  int needs(int node, long v) {
    if (!nodeIs(node)) return -1;
    if (!whole()) return -3;
    for (int sum = 0; sum <= 90; sum++) {
      for (int s = 0; s < states(); s++) {
        int of = 0;
        for (int m : row(s)) of += m;
        if (of == sum && worthOf(nodes.get(node), row(s)) >= v) return s;
      }
    }
    return -6;
  }

  int rule(int lake, int a, int b) {
    if (!lakeIs(lake) || a < 0 || a > 30 || b < 0 || b > 30) return -1;
    lakes.get(lake).a = a;
    lakes.get(lake).b = b;
    return 1;
  }

  long mean(int node, int state) {
    if (!nodeIs(node) || !stateIs(state) || !whole()) return NO;
    long sum = 0;
    for (List<N> way : ways(nodes.get(node))) {
      long[] earned = new long[1];
      gone(nodes.get(node), row(state), way, earned);
      for (N n : way) earned[0] *= n.weight;
      sum += earned[0];
    }
    return sum;
  }

  long worst(int node, int state) {
    if (!nodeIs(node) || !stateIs(state) || !whole()) return NO;
    long least = Long.MAX_VALUE;
    for (List<N> way : ways(nodes.get(node))) {
      long[] earned = new long[1];
      gone(nodes.get(node), row(state), way, earned);
      least = Math.min(least, earned[0]);
    }
    return least;
  }

  int lack(int node, int state) {
    if (!nodeIs(node) || !stateIs(state)) return -1;
    if (!whole()) return -3;
    int cases = 0;
    for (List<N> way : ways(nodes.get(node))) {
      boolean lacks = false;
      for (int[] row : gone(nodes.get(node), row(state), way, new long[1])) {
        for (int i = 0; i < row.length; i++) lacks |= row[i] < lakes.get(i).least;
      }
      if (lacks) cases++;
    }
    return cases;
  }

  int flood(int state, int lake, int m, int week) {
    if (!stateIs(state) || !lakeIs(lake) || m < 0 || m > lakes.get(lake).greatest) return -1;
    if (week < 0 || week >= w) return -1;
    if (!whole()) return -3;
    int cases = 0;
    for (List<N> way : ways(nodes.get(0))) {
      if (gone(nodes.get(0), row(state), way, new long[1]).get(week)[lake] > m) cases++;
    }
    return cases;
  }

  int cases(int node) {
    if (!nodeIs(node)) return -1;
    return whole() ? ways(nodes.get(node)).size() : -3;
  }

  int begin(int state) {
    if (!stateIs(state)) return -1;
    if (!whole()) return -3;
    Moment m = new Moment();
    m.node = nodes.get(0);
    m.state = row(state);
    run = new ArrayList<>();
    run.add(m);
    return 1;
  }

  private Moment last() {
    return run.get(run.size() - 1);
  }

  private int refuses(int k) {
    if (run == null) return -6;
    if (last().node.week == w - 1) return -4;
    return k < 0 || k >= last().node.children.size() ? -1 : 0;
  }

  private int go(int[] lets, int k) {
    Moment was = last();
    Moment m = new Moment();
    m.node = was.node.children.get(k);
    int[] spilled = new int[1];
    m.state = behind(was.state, lets, m.node, spilled);
    int earns = earns(was.state, lets, m.node.week);
    m.earned = was.earned + earns;
    m.spilled = was.spilled + spilled[0];
    m.out = was.out + lets[lets.length - 1];
    m.in = was.in + m.node.in[0] + m.node.in[1] + m.node.in[2];
    run.add(m);
    return earns;
  }

  int week(int lets, int k) {
    if (refuses(k) != 0) return refuses(k);
    String digits = Integer.toHexString(lets);
    while (digits.length() < lakes.size()) digits = "0" + digits;
    if (digits.length() > lakes.size()) return -1;
    int[] row = new int[lakes.size()];
    for (int i = 0; i < row.length; i++) {
      row[i] = Integer.parseInt(digits.substring(i, i + 1), 16);
      int m = last().state[i];
      if (row[i] < lo(lakes.get(i), m) || row[i] > hi(lakes.get(i), m)) return -1;
    }
    return go(row, k);
  }

  int best(int k) {
    return refuses(k) != 0 ? refuses(k) : go(policyOf(last().node, last().state), k);
  }

  int ruled(int k) {
    return refuses(k) != 0 ? refuses(k) : go(ruleOf(last().state), k);
  }

  int undo() {
    if (run == null || run.size() == 1) return -6;
    run.remove(run.size() - 1);
    return last().node.week;
  }

  int stop() {
    int was = run == null ? 0 : 1;
    run = null;
    return was;
  }

  int now(int what) {
    if (run == null) return -6;
    Moment m = last();
    int[] all = {m.node.number, number(m.state), m.earned, m.spilled, m.out, m.in, run.size() - 1};
    return what < 0 || what > 6 ? -1 : all[what];
  }
}
