import java.util.Random;

/** Runs of calls, by fixed seeds, that LakeChain and the Book must answer alike. */
public final class BookTest {
  private static final String[] NAMES = {
    "lake", "head", "end", "weeks", "price", "node", "about", "count", "worth", "policy", "water", "needs",
    "rule", "mean", "worst", "lack", "flood", "cases", "begin", "week", "best", "ruled", "undo", "stop", "now"
  };
  private static final int[] WRONG = {
    Integer.MIN_VALUE, -17, -6, -1, 31, 81, 100, 999, 1000, 1001, 4096, 65536, 268435456, Integer.MAX_VALUE
  };

  private final Random random;
  private final LakeChain desk = new LakeChain();
  private final Book book = new Book();
  private final StringBuilder told = new StringBuilder();
  private boolean wrong = false;

  private BookTest(long seed) {
    random = new Random(seed);
  }

  public static void main(String[] args) {
    int runs = args.length > 0 ? Integer.parseInt(args[0]) : 3000;
    int bad = 0;
    for (int seed = 0; seed < runs && bad < 5; seed++) {
      BookTest test = new BookTest(seed);
      test.go(seed % 50 == 0, seed % 50 == 25);
      if (test.wrong) {
        bad++;
        System.out.println("seed " + seed + ":\n" + test.told);
      }
    }
    System.out.println(bad == 0 ? "all answers are as in the book" : bad + " runs are not as in the book");
    if (bad != 0) System.exit(1);
  }

  /** wide: up to 1000 states; tall: measures up to 30 and up to ten weeks. */
  private void go(boolean wide, boolean tall) {
    build(wide, tall);
    int calls = wide || tall ? 60 : 150;
    for (int i = 0; i < calls && !wrong; i++) {
      if (random.nextInt(60) == 0) build(wide, tall);
      askSomething();
    }
  }

  private int upTo(int most) {
    return random.nextInt(most + 1);
  }

  /** A number from 0 to a greatest, or, now and then, one that may be wrong. */
  private int near(int most) {
    int kind = random.nextInt(40);
    if (kind == 0) return WRONG[random.nextInt(WRONG.length)];
    if (kind == 1) return most + 1;
    if (kind == 2) return -1;
    if (kind == 3) return most;
    return upTo(Math.max(0, most));
  }

  private void build(boolean wide, boolean tall) {
    if (random.nextInt(4) > 0) ask(23);
    int lakes = 1 + random.nextInt(3);
    int room = wide ? 1000 : tall ? 200 : 60;
    for (int i = 0; i < lakes; i++) {
      int greatest = upTo(tall ? 30 : wide ? 9 : 5);
      if (book.states() * (greatest + 1) > room) greatest = 0;
      int least = random.nextBoolean() ? greatest / 2 : upTo(greatest);
      ask(0, least, greatest, upTo(10), upTo(random.nextBoolean() ? 1 : 5));
      if (random.nextInt(10) == 0) ask(0, near(3), near(30), near(10), near(5));
    }
    for (int i = 0; i < book.lakes.size(); i++) raiseHeads(i);
    for (int i = 0; i < 4; i++) ask(1, near(lakes - 1), near(9), near(9));
    for (int i = 0; i < 3; i++) ask(2, near(lakes - 1), near(random.nextBoolean() ? 99 : 5));
    ask(3, 1 + random.nextInt(tall || random.nextInt(8) == 0 ? 10 : 3), 1 + random.nextInt(6));
    for (int i = 0; i < book.w; i++) ask(4, i, upTo(random.nextBoolean() ? 20 : 2));
    grow(random.nextInt(3));
  }

  /** From the greatest measure down, as heads can only be raised so. */
  private void raiseHeads(int lake) {
    int h = 9;
    for (int m = book.lakes.get(lake).greatest; m >= 0; m--) {
      h = Math.max(0, h - random.nextInt(4));
      ask(1, lake, m, h);
    }
  }

  /** Nodes until the tree is whole or full; some trees are left rough. */
  private void grow(int width) {
    for (int tries = 0; tries < 120 && !wrong; tries++) {
      int open = -1;
      for (int i = 0; i < book.nodes.size() && open < 0; i++) {
        if (book.about(i, 2) < book.w - 1 && book.about(i, 4) < book.d) open = i;
      }
      if (open < 0 || random.nextInt(300) == 0) return;
      int left = book.d - book.about(open, 4);
      int in = upTo(new int[] {0, 9, 99, 999}[Math.min(3, book.lakes.size())]);
      int weight = width == 0 ? left : width == 1 && random.nextBoolean() ? left : 1 + random.nextInt(left);
      ask(5, open, weight, in);
      if (random.nextInt(12) == 0) ask(5, near(book.nodes.size() - 1), near(book.d), near(in));
      if (book.nodes.size() > 70) width = 0;
    }
  }

  private void askSomething() {
    int n = book.nodes.size() - 1;
    int s = book.states() - 1;
    int l = book.lakes.size() - 1;
    int call = random.nextInt(NAMES.length);
    boolean mayChange = random.nextInt(6) == 0;
    if ((call == 0 || call == 3) && random.nextInt(8) > 0) return;
    switch (call) {
      case 0: ask(0, near(30), near(30), near(10), near(5)); break;
      case 1: if (mayChange) ask(1, near(l), near(9), near(9)); break;
      case 2: if (mayChange) ask(2, near(l), near(99)); break;
      case 3: if (mayChange) ask(3, near(10), near(6)); break;
      case 4: if (mayChange) ask(4, near(9), near(20)); break;
      case 5: ask(5, near(n), near(book.d), near(random.nextBoolean() ? 9 : 999)); break;
      case 6: ask(6, near(n), near(7)); break;
      case 7: ask(7, near(6)); break;
      case 8: ask(8, near(n), near(s)); break;
      case 9: ask(9, near(n), near(s), near(l)); break;
      case 10: ask(10, near(n), near(s), near(l)); break;
      case 11: askNeeds(near(n)); break;
      case 12: ask(12, near(l), near(30), near(30)); break;
      case 13: ask(13, near(n), near(s)); break;
      case 14: ask(14, near(n), near(s)); break;
      case 15: ask(15, near(n), near(s)); break;
      case 16: askFlood(near(s), near(l)); break;
      case 17: ask(17, near(n)); break;
      case 18: ask(18, near(s)); break;
      case 23: if (mayChange) ask(23); break;
      case 22: ask(22); break;
      case 24: ask(24, near(6)); break;
      default: askWeek(call); break;
    }
  }

  private void askNeeds(int node) {
    long v = book.worth(node, upTo(book.states() - 1));
    long shift = random.nextInt(3) - 1;
    long of = random.nextInt(12) == 0 ? (random.nextBoolean() ? Long.MAX_VALUE : Long.MIN_VALUE) : v + shift;
    compare("needs(" + node + ", " + of + ")", desk.needs(node, of), book.needs(node, of));
  }

  private void askFlood(int state, int lake) {
    int greatest = lake >= 0 && lake < book.lakes.size() ? book.lakes.get(lake).greatest : 5;
    ask(16, state, lake, near(greatest), near(book.w - 1));
  }

  private void askWeek(int call) {
    if (book.run == null && random.nextInt(4) > 0) ask(18, upTo(book.states() - 1));
    int children = book.run == null ? 1 : book.run.get(book.run.size() - 1).node.children.size();
    if (call != 19) {
      ask(call, near(Math.max(0, children - 1)));
      return;
    }
    int lets = 0;
    for (int i = 0; i < book.lakes.size(); i++) lets = lets * 16 + someLet(i);
    if (random.nextInt(15) == 0) lets = WRONG[random.nextInt(WRONG.length)];
    ask(19, lets, near(Math.max(0, children - 1)));
  }

  /** Mostly one that may be. */
  private int someLet(int lake) {
    if (book.run == null || random.nextInt(12) == 0) return upTo(15);
    Book.L l = book.lakes.get(lake);
    int m = book.run.get(book.run.size() - 1).state[lake];
    int let = Book.lo(l, m) + upTo(Book.hi(l, m) - Book.lo(l, m));
    return random.nextInt(12) == 0 ? Math.max(0, let + random.nextInt(3) - 1) : let;
  }

  private void ask(int call, int... a) {
    if (wrong) return;
    StringBuilder text = new StringBuilder(NAMES[call]).append('(');
    for (int i = 0; i < a.length; i++) text.append(i > 0 ? ", " : "").append(a[i]);
    compare(text.append(')').toString(), ofDesk(call, a), ofBook(call, a));
  }

  private void compare(String call, long got, long want) {
    told.append("  ").append(call).append(" = ").append(got).append('\n');
    if (got == want) return;
    wrong = true;
    told.append("  the book has ").append(want).append('\n');
  }

  private long ofDesk(int call, int[] a) {
    switch (call) {
      case 0: return desk.lake(a[0], a[1], a[2], a[3]);
      case 1: return desk.head(a[0], a[1], a[2]);
      case 2: return desk.end(a[0], a[1]);
      case 3: return desk.weeks(a[0], a[1]);
      case 4: return desk.price(a[0], a[1]);
      case 5: return desk.node(a[0], a[1], a[2]);
      case 6: return desk.about(a[0], a[1]);
      case 7: return desk.count(a[0]);
      case 8: return desk.worth(a[0], a[1]);
      case 9: return desk.policy(a[0], a[1], a[2]);
      case 10: return desk.water(a[0], a[1], a[2]);
      case 12: return desk.rule(a[0], a[1], a[2]);
      case 13: return desk.mean(a[0], a[1]);
      case 14: return desk.worst(a[0], a[1]);
      case 15: return desk.lack(a[0], a[1]);
      case 16: return desk.flood(a[0], a[1], a[2], a[3]);
      case 17: return desk.cases(a[0]);
      case 18: return desk.begin(a[0]);
      case 19: return desk.week(a[0], a[1]);
      case 20: return desk.best(a[0]);
      case 21: return desk.ruled(a[0]);
      case 22: return desk.undo();
      case 23: return desk.stop();
      default: return desk.now(a[0]);
    }
  }

  private long ofBook(int call, int[] a) {
    switch (call) {
      case 0: return book.lake(a[0], a[1], a[2], a[3]);
      case 1: return book.head(a[0], a[1], a[2]);
      case 2: return book.end(a[0], a[1]);
      case 3: return book.weeks(a[0], a[1]);
      case 4: return book.price(a[0], a[1]);
      case 5: return book.node(a[0], a[1], a[2]);
      case 6: return book.about(a[0], a[1]);
      case 7: return book.count(a[0]);
      case 8: return book.worth(a[0], a[1]);
      case 9: return book.policy(a[0], a[1], a[2]);
      case 10: return book.water(a[0], a[1], a[2]);
      case 12: return book.rule(a[0], a[1], a[2]);
      case 13: return book.mean(a[0], a[1]);
      case 14: return book.worst(a[0], a[1]);
      case 15: return book.lack(a[0], a[1]);
      case 16: return book.flood(a[0], a[1], a[2], a[3]);
      case 17: return book.cases(a[0]);
      case 18: return book.begin(a[0]);
      case 19: return book.week(a[0], a[1]);
      case 20: return book.best(a[0]);
      case 21: return book.ruled(a[0]);
      case 22: return book.undo();
      case 23: return book.stop();
      default: return book.now(a[0]);
    }
  }
}
