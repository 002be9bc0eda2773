import java.util.Arrays;

/**
 * A desk that lets water down a chain of lakes, week by week, while the rain comes in told cases.
 * The document (DOC.md) says what each call answers; README.md says how to use it.
 */
public final class LakeChain {
    public static final int BAD = -1, BUSY = -2, ROUGH = -3, OVER = -4, FULL = -5;

    /** What calls answer where there is no run, no week to undo, or no state that is worth enough. */
    private static final int NONE = -6;
    /** What about() answers where there is nothing to tell: -1 is an answer of its own there. */
    private static final int NOTHING_TOLD = -2;
    private static final long NO_WORTH = -9000000000000000000L;

    private static final int MOST_LAKES = 3;
    private static final int MOST_STATES = 1000;
    private static final int MOST_MEASURE = 30;
    private static final int MOST_LIMIT = 10;
    private static final int MOST_FISH = 5;
    private static final int MOST_HEAD = 9;
    private static final int MOST_END = 99;
    private static final int MOST_WEEKS = 10;
    private static final int MOST_PRICE = 20;
    private static final int MOST_PARTS = 6;
    private static final int MOST_NODES = 81;

    private final Valley valley;
    private final Tree tree;
    private final Worths worths;
    private final Walk walk;
    private final Run run;

    public LakeChain() {
        valley = new Valley();
        tree = new Tree();
        worths = new Worths(valley, tree);
        walk = new Walk(valley, tree);
        run = new Run();
    }

    // ---- the valley

    public int lake(int least, int greatest, int limit, int fish) {
        if (!isWithin(greatest, MOST_MEASURE) || !isWithin(least, greatest)) return BAD;
        if (!isWithin(limit, MOST_LIMIT) || !isWithin(fish, MOST_FISH)) return BAD;
        boolean noLakeMore = valley.made >= MOST_LAKES;
        if (!noLakeMore && valley.states * (greatest + 1) > MOST_STATES) return BAD;
        if (run.isOn) return BUSY;
        if (noLakeMore || tree.made > 1) return FULL;
        worths.forget();
        return valley.addLake(least, greatest, limit, fish);
    }

    public int head(int lake, int measure, int h) {
        Lake which = valley.lakeAt(lake);
        if (which == null || !isWithin(measure, which.greatest) || !isWithin(h, MOST_HEAD)) return BAD;
        if (!which.takesHead(measure, h)) return BAD;
        if (run.isOn) return BUSY;
        int before = which.headAt(measure);
        which.heads[measure] = h;
        worths.forget();
        return before;
    }

    public int end(int lake, int e) {
        Lake which = valley.lakeAt(lake);
        if (which == null || !isWithin(e, MOST_END)) return BAD;
        if (run.isOn) return BUSY;
        int before = which.endPrice;
        which.endPrice = e;
        worths.forget();
        return before;
    }

    public int weeks(int w, int d) {
        if (w < 1 || w > MOST_WEEKS || d < 1 || d > MOST_PARTS) return BAD;
        if (run.isOn) return BUSY;
        tree.clear(w, d);
        worths.forget();
        return 1;
    }

    public int price(int week, int p) {
        if (!isWithin(week, MOST_WEEKS - 1) || !isWithin(p, MOST_PRICE)) return BAD;
        if (run.isOn) return BUSY;
        int before = tree.prices[week];
        tree.prices[week] = p;
        worths.forget();
        return before;
    }

    public int node(int parent, int weight, int in) {
        Node above = tree.nodeAt(parent);
        if (above == null || tree.isLast(above)) return BAD;
        if (weight < 1 || weight > tree.parts - above.weightBelow) return BAD;
        if (!isWithin(in, valley.mostIn())) return BAD;
        if (run.isOn) return BUSY;
        Node below = tree.addNode(above, weight);
        if (below == null) return FULL;
        valley.tellIn(in, below.in);
        worths.forget();
        return below.number;
    }

    public int about(int node, int what) {
        Node which = tree.nodeAt(node);
        if (which == null) return NOTHING_TOLD;
        switch (what) {
            case 0: return which.parent == null ? -1 : which.parent.number;
            case 1: return which.parent == null ? tree.parts : which.weight;
            case 2: return which.week;
            case 3: return which.below;
            case 4: return which.weightBelow;
            case 5:
            case 6:
            case 7: return valley.lakeAt(what - 5) == null ? NOTHING_TOLD : which.in[what - 5];
            default: return NOTHING_TOLD;
        }
    }

    public int count(int what) {
        switch (what) {
            case 0: return valley.made;
            case 1: return tree.made;
            case 2: return valley.states;
            case 3: return run.isOn ? 1 : 0;
            case 4: return tree.weekCount;
            case 5: return tree.parts;
            case 6: return isWhole() ? 1 : 0;
            default: return BAD;
        }
    }

    // ---- what states are worth

    public long worth(int node, int state) {
        Node at = tree.nodeAt(node);
        if (at == null || !valley.hasState(state) || !isWhole()) return NO_WORTH;
        return worths.worthAt(at, state);
    }

    public int policy(int node, int state, int lake) {
        Node at = tree.nodeAt(node);
        if (at == null || !valley.hasState(state) || valley.lakeAt(lake) == null) return BAD;
        if (!isWhole()) return ROUGH;
        if (tree.isLast(at)) return OVER;
        return Valley.letOf(worths.bestLets(at, state), lake);
    }

    public long water(int node, int state, int lake) {
        Node at = tree.nodeAt(node);
        Lake which = valley.lakeAt(lake);
        if (at == null || which == null || !valley.hasState(state) || !isWhole()) return NO_WORTH;
        if (valley.measureOf(state, lake) >= which.greatest) return NO_WORTH;
        return worths.worthAt(at, state + which.stride) - worths.worthAt(at, state);
    }

    public int needs(int node, long v) {
        Node at = tree.nodeAt(node);
        if (at == null) return BAD;
        if (!isWhole()) return ROUGH;
        int answer = NONE;
        int leastSum = MOST_LAKES * MOST_MEASURE + 1;
        for (int state = 0; state < valley.states; state++) {
            int sum = valley.sumOf(state);
            // the sum is asked first: it is cheap, and a worth is not
            if (sum < leastSum && worths.worthAt(at, state) >= v) {
                leastSum = sum;
                answer = state;
            }
        }
        return answer;
    }

    // ---- rules

    public int rule(int lake, int a, int b) {
        Lake which = valley.lakeAt(lake);
        if (which == null || !isWithin(a, MOST_MEASURE) || !isWithin(b, MOST_MEASURE)) return BAD;
        which.ruleKeeps = a;
        which.ruleMost = b;
        return 1;
    }

    public long mean(int node, int state) {
        Node at = tree.nodeAt(node);
        if (at == null || !valley.hasState(state) || !isWhole()) return NO_WORTH;
        walk.go(at, state);
        return walk.meanOfCases();
    }

    public long worst(int node, int state) {
        Node at = tree.nodeAt(node);
        if (at == null || !valley.hasState(state) || !isWhole()) return NO_WORTH;
        walk.go(at, state);
        return walk.leastOfCases();
    }

    public int lack(int node, int state) {
        Node at = tree.nodeAt(node);
        if (at == null || !valley.hasState(state)) return BAD;
        if (!isWhole()) return ROUGH;
        walk.go(at, state);
        return walk.casesOfLack();
    }

    public int flood(int state, int lake, int m, int week) {
        Lake which = valley.lakeAt(lake);
        if (which == null || !valley.hasState(state)) return BAD;
        if (!isWithin(m, which.greatest) || !isWithin(week, tree.weekCount - 1)) return BAD;
        if (!isWhole()) return ROUGH;
        walk.go(tree.nodeAt(0), state);
        return walk.casesOfFlood(lake, m, week);
    }

    public int cases(int node) {
        Node at = tree.nodeAt(node);
        if (at == null) return BAD;
        if (!isWhole()) return ROUGH;
        walk.go(at, 0);
        return walk.allCases();
    }

    // ---- a run

    public int begin(int state) {
        if (!valley.hasState(state)) return BAD;
        if (!isWhole()) return ROUGH;
        run.startAt(tree.nodeAt(0), state);
        return 1;
    }

    public int week(int lets, int k) {
        int refused = refusalOfWeek(k);
        if (refused != 0) return refused;
        if (!isWithin(lets, valley.mostLets())) return BAD;
        int all = valley.allLets(lets);
        if (!valley.mayLet(run.stateNow(), all)) return BAD;
        return letWeek(all, k);
    }

    public int best(int k) {
        int refused = refusalOfWeek(k);
        if (refused != 0) return refused;
        return letWeek(worths.bestLets(run.at, run.stateNow()), k);
    }

    public int ruled(int k) {
        int refused = refusalOfWeek(k);
        if (refused != 0) return refused;
        return letWeek(valley.ruleLets(run.stateNow()), k);
    }

    public int undo() {
        if (!run.isOn || run.length < 1 || run.at == null || run.at.parent == null) return NONE;
        run.length--;
        run.at = run.at.parent;
        return run.at.week;
    }

    public int stop() {
        if (!run.isOn) return 0;
        run.isOn = false;
        return 1;
    }

    public int now(int what) {
        if (!run.isOn || run.at == null) return NONE;
        switch (what) {
            case 0: return run.at.number;
            case 1: return run.stateNow();
            case 2: return run.toldNow(run.earned);
            case 3: return run.toldNow(run.spilled);
            case 4: return run.toldNow(run.letOut);
            case 5: return run.toldNow(run.cameIn);
            case 6: return run.length;
            default: return BAD;
        }
    }

    // ---- what the calls share

    private static boolean isWithin(int number, int most) {
        return number >= 0 && number <= most;
    }

    private boolean isWhole() {
        return valley.made > 0 && tree.isFilled();
    }

    /** 0, or why a week that child k ends can't be let now. */
    private int refusalOfWeek(int k) {
        if (!run.isOn || run.at == null) return NONE;
        if (tree.isLast(run.at)) return OVER;
        return run.at.childAt(k) == null ? BAD : 0;
    }

    /** Lets a week that was tested before; answers what it earns. */
    private int letWeek(int lets, int k) {
        Node child = run.at == null ? null : run.at.childAt(k);
        if (child == null) return BAD;
        int earns = tree.priceFrom(run.at) * valley.headsTimesLets(run.stateNow(), lets);
        int state = valley.flow(run.stateNow(), lets, child.in);
        run.goOn(child, state, earns, valley.spilled, Valley.letOf(lets, valley.made - 1));
        return earns;
    }

    /** One lake. One that was not made holds nothing and lets nothing, so that there are always three. */
    private static final class Lake {
        final int[] heads = new int[MOST_MEASURE + 1];
        int least;
        int greatest;
        int limit;
        int fish;
        int endPrice;
        int ruleKeeps;
        int ruleMost = MOST_MEASURE;
        /** How much greater a state's number is for one measure more here. */
        int stride = 1;

        Lake() {
            Arrays.fill(heads, 1);
        }

        int headAt(int measure) {
            return measure >= 0 && measure < heads.length ? heads[measure] : 0;
        }

        /** Heads never fall as the measure rises, so the two next ones stand for all. */
        boolean takesHead(int measure, int h) {
            if (measure > 0 && headAt(measure - 1) > h) return false;
            return measure >= greatest || headAt(measure + 1) >= h;
        }

        int leastLet(int measure) {
            return Math.min(fish, measure);
        }

        int mostLet(int measure) {
            return Math.max(leastLet(measure), Math.min(limit, measure - least));
        }

        int ruleLet(int measure) {
            int wanted = Math.min(Math.max(measure - ruleKeeps, 0), ruleMost);
            return Math.max(leastLet(measure), Math.min(mostLet(measure), wanted));
        }
    }

    /** The lakes, and states as numbers. Lets are told as three digits of base 16, lake 0's highest. */
    private static final class Valley {
        final Lake[] lakes = new Lake[MOST_LAKES];
        int made;
        int states = 1;
        /** What the latest flow() spilled. */
        int spilled;

        Valley() {
            for (int i = 0; i < lakes.length; i++) lakes[i] = new Lake();
        }

        int addLake(int least, int greatest, int limit, int fish) {
            if (made >= lakes.length) return FULL;
            for (int i = 0; i < made; i++) lakes[i].stride *= greatest + 1;
            states *= greatest + 1;
            Lake lake = lakes[made];
            lake.least = least;
            lake.greatest = greatest;
            lake.limit = limit;
            lake.fish = fish;
            made++;
            return made - 1;
        }

        Lake lakeAt(int number) {
            return number >= 0 && number < made && number < lakes.length ? lakes[number] : null;
        }

        boolean hasState(int state) {
            return state >= 0 && state < states;
        }

        int measureOf(int state, int number) {
            if (number < 0 || number >= lakes.length) return 0;
            int stride = lakes[number].stride;
            int size = lakes[number].greatest + 1;
            return stride < 1 || size < 1 ? 0 : state / stride % size;
        }

        int sumOf(int state) {
            int sum = 0;
            for (int i = 0; i < made; i++) sum += measureOf(state, i);
            return sum;
        }

        long endWorth(int state) {
            long sum = 0;
            for (int i = 0; i < made; i++) sum += (long) lakes[i].endPrice * measureOf(state, i);
            return sum;
        }

        boolean isBelowLeast(int state) {
            for (int i = 0; i < made; i++) {
                if (measureOf(state, i) < lakes[i].least) return true;
            }
            return false;
        }

        /** The greatest number with one digit of base 10 for each lake. */
        int mostIn() {
            int past = 1;
            for (int i = 0; i < made; i++) past *= 10;
            return past - 1;
        }

        void tellIn(int in, int[] row) {
            int rest = in;
            for (int i = row.length - 1; i >= 0; i--) {
                row[i] = i < made ? rest % 10 : 0;
                if (i < made) rest /= 10;
            }
        }

        /** The greatest number with one digit of base 16 for each lake. */
        int mostLets() {
            return (1 << 4 * made) - 1;
        }

        /** Lets with a digit for each lake made, as lets with three digits. */
        int allLets(int lets) {
            return lets << 4 * (MOST_LAKES - made);
        }

        static int letOf(int lets, int number) {
            return number < 0 || number >= MOST_LAKES ? 0 : lets >> 4 * (MOST_LAKES - 1 - number) & 15;
        }

        boolean mayLet(int state, int lets) {
            for (int i = 0; i < made; i++) {
                int measure = measureOf(state, i);
                int let = letOf(lets, i);
                if (let < lakes[i].leastLet(measure) || let > lakes[i].mostLet(measure)) return false;
            }
            return true;
        }

        int ruleLets(int state) {
            int lets = 0;
            for (int i = 0; i < lakes.length; i++) lets = lets << 4 | lakes[i].ruleLet(measureOf(state, i));
            return lets;
        }

        int headsTimesLets(int state, int lets) {
            int sum = 0;
            for (int i = 0; i < made; i++) sum += lakes[i].headAt(measureOf(state, i)) * letOf(lets, i);
            return sum;
        }

        /** The state behind a week in which so much was let and came in. */
        int flow(int state, int lets, int[] in) {
            int answer = 0;
            int letAhead = 0;
            int over = 0;
            spilled = 0;
            for (int i = 0; i < lakes.length; i++) {
                int let = letOf(lets, i);
                int measure = measureOf(state, i) - let + letAhead + over + (i < in.length ? in[i] : 0);
                over = Math.max(0, measure - lakes[i].greatest);
                if (i < made) spilled += over;
                answer = answer * (lakes[i].greatest + 1) + measure - over;
                letAhead = let;
            }
            return answer;
        }
    }

    /** A node of the tree, with what is known of its worths and where the latest walk came by it. */
    private static final class Node {
        final int number;
        final int[] in = new int[MOST_LAKES];
        final Node[] children = new Node[MOST_PARTS];
        Node parent;
        int weight;
        int week = -1;
        int below;
        int weightBelow;

        /** Per state: its worth, and the mean of what comes by the children from it if nothing is let. */
        long[] worthRow;
        long[] meanRow;
        int knownAt;

        boolean isReached;
        int state;
        int earned;
        long share;
        boolean hasLacked;

        Node(int number) {
            this.number = number;
        }

        Node childAt(int k) {
            return k >= 0 && k < below && k < children.length ? children[k] : null;
        }

        int sumIn() {
            int sum = 0;
            for (int i = 0; i < in.length; i++) sum += in[i];
            return sum;
        }

        void addChild(Node child) {
            if (below >= children.length) return;
            children[below] = child;
            below++;
            weightBelow += child.weight;
        }

        void dropChildren() {
            below = 0;
            weightBelow = 0;
        }
    }

    /** The nodes as they were made (a parent ahead of its children), the weeks and their prices. */
    private static final class Tree {
        final Node[] nodes = new Node[MOST_NODES];
        final int[] prices = new int[MOST_WEEKS];
        int made = 1;
        int weekCount = 1;
        int parts = 1;

        Tree() {
            nodes[0] = new Node(0);
            Arrays.fill(prices, 1);
        }

        void clear(int w, int d) {
            weekCount = w;
            parts = d;
            made = 1;
            nodes[0].dropChildren();
        }

        Node nodeAt(int number) {
            return number >= 0 && number < made && number < nodes.length ? nodes[number] : null;
        }

        /** null if there are too many. A node that went is used again, with its rows: all that is made counts. */
        Node addNode(Node above, int weight) {
            if (made >= nodes.length) return null;
            if (nodes[made] == null) nodes[made] = new Node(made);
            Node below = nodes[made];
            below.dropChildren();
            below.parent = above;
            below.weight = weight;
            below.week = above.week + 1;
            above.addChild(below);
            made++;
            return below;
        }

        boolean isLast(Node at) {
            return at.week >= weekCount - 1;
        }

        int weeksLeft(Node at) {
            return weekCount - 1 - at.week;
        }

        /** The price of the week that begins at a node. */
        int priceFrom(Node at) {
            int week = at.week + 1;
            return week >= 0 && week < prices.length ? prices[week] : 0;
        }

        boolean isFilled() {
            for (int i = 0; i < made; i++) {
                if (!isLast(nodes[i]) && nodes[i].weightBelow != parts) return false;
            }
            return true;
        }

        /** By how much worths are multiplied that many weeks ahead of the end. */
        long scaleOf(int left) {
            long scale = 1;
            for (int i = 0; i < left; i++) scale *= parts;
            return scale;
        }
    }

    /**
     * Worths and best lets. What lets leave behind, before the rain, is a state too once what is beyond
     * a greatest has spilled: rain on it then spills on to the same state. So the mean of what comes is
     * kept by that state, and many lets share it.
     */
    private static final class Worths {
        /** No worth is below 0. */
        private static final long UNKNOWN = -1;

        final Valley valley;
        final Tree tree;
        int version = 1;
        /** The lets of the latest search. */
        int foundLets;

        Worths(Valley valley, Tree tree) {
            this.valley = valley;
            this.tree = tree;
        }

        void forget() {
            version++;
        }

        int bestLets(Node at, int state) {
            refresh(at);
            searchBest(at, state, tree.weeksLeft(at));
            return foundLets;
        }

        long worthAt(Node at, int state) {
            return worthOf(at, state, tree.weeksLeft(at));
        }

        /** left, the weeks from the node to the end, falls by one with each level and ends the search. */
        private long worthOf(Node at, int state, int left) {
            if (left <= 0) return valley.endWorth(state);
            refresh(at);
            long[] row = at.worthRow;
            if (row == null || state < 0 || state >= row.length) return 0;
            if (row[state] == UNKNOWN) row[state] = searchBest(at, state, left);
            return row[state];
        }

        private void refresh(Node at) {
            if (at.knownAt == version && at.worthRow != null && at.meanRow != null) return;
            if (at.worthRow == null || at.meanRow == null || at.worthRow.length != valley.states) {
                at.worthRow = new long[valley.states];
                at.meanRow = new long[valley.states];
            }
            Arrays.fill(at.worthRow, UNKNOWN);
            Arrays.fill(at.meanRow, UNKNOWN);
            at.knownAt = version;
        }

        /** The least lets come first, so of several as good ones the first one found stays. */
        private long searchBest(Node at, int state, int left) {
            Lake first = valley.lakes[0];
            Lake second = valley.lakes[1];
            Lake third = valley.lakes[2];
            int held0 = valley.measureOf(state, 0);
            int held1 = valley.measureOf(state, 1);
            int held2 = valley.measureOf(state, 2);
            long unit = tree.scaleOf(left) * tree.priceFrom(at);
            long gain0 = unit * first.headAt(held0);
            long gain1 = unit * second.headAt(held1);
            long gain2 = unit * third.headAt(held2);
            int most0 = first.mostLet(held0);
            int most1 = second.mostLet(held1);
            int most2 = third.mostLet(held2);
            int least1 = second.leastLet(held1);
            int least2 = third.leastLet(held2);
            long best = UNKNOWN;
            int bestLets = 0;
            for (int let0 = first.leastLet(held0); let0 <= most0; let0++) {
                for (int let1 = least1; let1 <= most1; let1++) {
                    int kept1 = Math.min(held1 - let1 + let0, second.greatest);
                    int over1 = held1 - let1 + let0 - kept1;
                    int kept = (held0 - let0) * first.stride + kept1 * second.stride;
                    long gain = gain0 * let0 + gain1 * let1;
                    for (int let2 = least2; let2 <= most2; let2++) {
                        int kept2 = Math.min(held2 - let2 + let1 + over1, third.greatest);
                        long value = gain + gain2 * let2 + meanFrom(at, kept + kept2, left);
                        if (value > best) {
                            best = value;
                            bestLets = let0 << 8 | let1 << 4 | let2;
                        }
                    }
                }
            }
            // set only here: the searches further down set it, too
            foundLets = bestLets;
            return best;
        }

        private long meanFrom(Node at, int kept, int left) {
            long[] row = at.meanRow;
            if (row == null || kept < 0 || kept >= row.length) return 0;
            if (row[kept] == UNKNOWN) row[kept] = meanOfChildren(at, kept, left);
            return row[kept];
        }

        private long meanOfChildren(Node at, int kept, int left) {
            long sum = 0;
            for (int k = 0; k < at.below; k++) {
                Node child = at.childAt(k);
                if (child == null) continue;
                sum += child.weight * worthOf(child, valley.flow(kept, 0, child.in), left - 1);
            }
            return sum;
        }
    }

    /** The rule gone through from a node and a state in every case. */
    private static final class Walk {
        final Valley valley;
        final Tree tree;

        Walk(Valley valley, Tree tree) {
            this.valley = valley;
            this.tree = tree;
        }

        void go(Node from, int state) {
            if (from == null) return;
            for (int i = 0; i < tree.made; i++) tree.nodes[i].isReached = false;
            from.isReached = true;
            from.state = state;
            from.earned = 0;
            from.share = 1;
            from.hasLacked = false;
            for (int i = 1; i < tree.made; i++) {
                Node to = tree.nodes[i];
                if (to.parent != null && to.parent.isReached) stepTo(to, to.parent);
            }
        }

        private void stepTo(Node to, Node from) {
            int lets = valley.ruleLets(from.state);
            to.isReached = true;
            to.state = valley.flow(from.state, lets, to.in);
            to.earned = from.earned + tree.priceFrom(from) * valley.headsTimesLets(from.state, lets);
            to.share = from.share * to.weight;
            to.hasLacked = from.hasLacked || valley.isBelowLeast(to.state);
        }

        private boolean endsCase(Node at) {
            return at.isReached && tree.isLast(at);
        }

        private long totalOf(Node at) {
            return at.earned + valley.endWorth(at.state);
        }

        int allCases() {
            int cases = 0;
            for (int i = 0; i < tree.made; i++) {
                if (endsCase(tree.nodes[i])) cases++;
            }
            return cases;
        }

        long meanOfCases() {
            long sum = 0;
            for (int i = 0; i < tree.made; i++) {
                Node at = tree.nodes[i];
                if (endsCase(at)) sum += at.share * totalOf(at);
            }
            return sum;
        }

        long leastOfCases() {
            long least = -1;
            for (int i = 0; i < tree.made; i++) {
                Node at = tree.nodes[i];
                if (endsCase(at) && (least < 0 || totalOf(at) < least)) least = totalOf(at);
            }
            return least;
        }

        int casesOfLack() {
            int cases = 0;
            for (int i = 0; i < tree.made; i++) {
                if (endsCase(tree.nodes[i]) && tree.nodes[i].hasLacked) cases++;
            }
            return cases;
        }

        int casesOfFlood(int lake, int m, int week) {
            int cases = 0;
            for (int i = 0; i < tree.made; i++) {
                if (endsCase(tree.nodes[i]) && stoodAbove(tree.nodes[i], lake, m, week)) cases++;
            }
            return cases;
        }

        private boolean stoodAbove(Node last, int lake, int m, int week) {
            Node at = last;
            for (int i = 0; i < MOST_WEEKS && at.week > week && at.parent != null; i++) at = at.parent;
            return valley.measureOf(at.state, lake) > m;
        }
    }

    /** A run; what it came to behind each week is kept, so that weeks can be undone. */
    private static final class Run {
        final int[] states = new int[MOST_WEEKS + 1];
        final int[] earned = new int[MOST_WEEKS + 1];
        final int[] spilled = new int[MOST_WEEKS + 1];
        final int[] letOut = new int[MOST_WEEKS + 1];
        final int[] cameIn = new int[MOST_WEEKS + 1];
        boolean isOn;
        int length;
        Node at;

        Run() {
        }

        void startAt(Node beginning, int state) {
            isOn = true;
            length = 0;
            at = beginning;
            states[0] = state;
        }

        int stateNow() {
            return toldNow(states);
        }

        /** What one of the rows above has behind the latest week. */
        int toldNow(int[] row) {
            return length >= 0 && length < row.length ? row[length] : 0;
        }

        void goOn(Node child, int state, int earns, int spills, int letsOut) {
            if (length >= MOST_WEEKS) return;
            int before = length;
            length++;
            at = child;
            states[length] = state;
            earned[length] = earned[before] + earns;
            spilled[length] = spilled[before] + spills;
            letOut[length] = letOut[before] + letsOut;
            cameIn[length] = cameIn[before] + child.sumIn();
        }
    }
}
