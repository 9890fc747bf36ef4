import java.util.ArrayList;
import java.util.Arrays;

/**
 * Milk first: plans by which somebody who says that she can taste it is asked with cups, and how
 * often each end comes. What each method answers stands in the document's promises.
 */
public final class MilkFirst {
    private static final int NOBODY = -1;
    private static final int OTHER = -2;
    private static final int STATE = -3;
    private static final int BELOW = -4;
    private static final int ROOM = -6;
    private static final int NONE = -9;
    private static final int REFUSAL_KINDS = 6;
    private static final int FIRST_REFUSAL_COUNT = 11;
    private static final int FAULT_BASE = -20;
    private static final long LONG_REFUSAL = 4000000000000000000L;
    private static final int LEAN_REFUSAL = 1000000000;

    private static final int LOOSE = 0;
    private static final int FIXED = 1;
    private static final int PAIRED = 2;
    private static final int ODD = 3;
    private static final int BLOCKED = 4;

    private static final int MOST_CUPS = 12;
    private static final int BLOCK_CUPS = 4;
    private static final int ALL_MARKS = 4095;
    private static final int ABLEST = 10;
    private static final int BY_LOT = 5;
    private static final int THOUSAND = 1000;

    private static final int MOST_PLANS = 30;
    private static final int MOST_RULES = 20;
    private static final int MOST_SITTINGS = 30;
    private static final int MOST_BYTES = 40;
    private static final int MOST_AT_ONCE = 8;
    private static final int MOST_CLAIMS = 4;
    private static final int MOST_PARTS = 99;

    /**
     * A NOBODY's odds of any END of any PLAN are whole numbers of this part: it holds 2 to the 12th
     * (LOOSE), 3 to the 4th (ODD; with the twos, the blocks too) and 5, 7, 11 (sets of twelve cups).
     */
    private static final long NOBODY_PART = 127733760L;

    private final ArrayList<Plan> plans = new ArrayList<Plan>();
    private final ArrayList<Rule> rules = new ArrayList<Rule>();
    private final ArrayList<Sitting> sittings = new ArrayList<Sitting>();
    private final Tape tape = new Tape();
    private int toldInAll = 0;
    private final int[] refusals = new int[REFUSAL_KINDS];
    private final Ends able = new Ends();
    private final Ends trial = new Ends();
    private final Looking looking = new Looking();

    public MilkFirst() {
    }

    // ---- plans and how often each end comes ----

    public int plan(int kind, int n, int k) {
        if (kind < LOOSE || kind > BLOCKED) return refuse(OTHER);
        boolean counted = kind == FIXED || kind == BLOCKED;
        if (n < fewestOf(kind) || counted && k < 1) return refuse(BELOW);
        if (n > mostOf(kind) || counted && k > mostNamed(kind, n)) return refuse(ROOM);
        if (plans.size() >= MOST_PLANS) return refuse(ROOM);
        plans.add(new Plan(kind, n, counted ? k : 0));
        return plans.size() - 1;
    }

    public int size(int plan) {
        Plan asked = planAt(plan);
        if (asked == null) return refuse(NOBODY);
        return asked.most();
    }

    public long odds(int plan, int a, int right, int part) {
        if (noPart(part)) return refuseLong(OTHER);
        Plan asked = planAt(plan);
        if (asked == null) return refuseLong(NOBODY);
        if (a < 0 || right < 0) return refuseLong(BELOW);
        if (a > ABLEST || right > asked.most()) return refuseLong(ROOM);
        Ends ends = endsOf(asked, a);
        return Numbers.partOf(ends.just(right), ends.all(), part);
    }

    public long least(int plan, int a, int right, int part) {
        if (noPart(part)) return refuseLong(OTHER);
        Plan asked = planAt(plan);
        if (asked == null) return refuseLong(NOBODY);
        if (a < 0 || right < 0) return refuseLong(BELOW);
        if (a > ABLEST || right > asked.most() + 1) return refuseLong(ROOM);
        Ends ends = endsOf(asked, a);
        return Numbers.partOf(ends.orMore(right), ends.all(), part);
    }

    public long mean(int plan, int a, int part) {
        if (noPart(part)) return refuseLong(OTHER);
        Plan asked = planAt(plan);
        if (asked == null) return refuseLong(NOBODY);
        if (a < 0) return refuseLong(BELOW);
        if (a > ABLEST) return refuseLong(ROOM);
        Ends ends = endsOf(asked, a);
        return Numbers.partOf(ends.together(), ends.all(), part);
    }

    // ---- rules ----

    public int feed(int n, long bytes) {
        if (n < 1) return refuse(BELOW);
        if (n > MOST_AT_ONCE || tape.fed() + n > MOST_BYTES) return refuse(ROOM);
        for (int i = 0; i < n; i++) {
            tape.take((int) (bytes >>> 8 * i & 255));
        }
        return tape.fed();
    }

    public int rule() {
        if (rules.size() >= MOST_RULES) return refuse(ROOM);
        int fault = tape.read();
        tape.clear();
        if (fault >= 0) return FAULT_BASE - fault;
        rules.add(new Rule(tape.codeRead()));
        return rules.size() - 1;
    }

    public int believes(int rule, int plan, int right) {
        Rule by = ruleAt(rule);
        Plan asked = planAt(plan);
        if (by == null || asked == null) return refuse(NOBODY);
        if (right < 0) return refuse(BELOW);
        if (right > asked.most()) return refuse(ROOM);
        return by.holds(asked, right) ? 1 : 0;
    }

    public long believed(int rule, int plan, int a, int part) {
        if (noPart(part)) return refuseLong(OTHER);
        Rule by = ruleAt(rule);
        Plan asked = planAt(plan);
        if (by == null || asked == null) return refuseLong(NOBODY);
        if (a < 0) return refuseLong(BELOW);
        if (a > ABLEST) return refuseLong(ROOM);
        Ends ends = endsOf(asked, a);
        return Numbers.partOf(heldBy(by, asked, ends), ends.all(), part);
    }

    public int line(int plan, int p) {
        Plan asked = planAt(plan);
        if (asked == null) return refuse(NOBODY);
        if (p < 0) return refuse(BELOW);
        if (p > THOUSAND) return refuse(ROOM);
        return asked.nobody.lineFor(p);
    }

    public int fewest(int kind, int p, int a, int q) {
        if (kind < LOOSE || kind > ODD) return refuse(OTHER);
        if (p < 0 || a < 0 || q < 0) return refuse(BELOW);
        if (p > THOUSAND || a > ABLEST || q > THOUSAND) return refuse(ROOM);
        for (int n = fewestOf(kind); n <= mostOf(kind); n++) {
            int k = kind == FIXED ? n / 2 : 0;
            trial.fill(kind, n, k, BY_LOT);
            int line = trial.lineFor(p);
            trial.fill(kind, n, k, a);
            if (Numbers.against(trial.orMore(line), trial.all(), q) >= 0) return n;
        }
        return NONE;
    }

    // ---- looking well, claims, beliefs, letters ----

    public long well(int n, int set, int d, int a, int part) {
        if (noPart(part)) return refuseLong(OTHER);
        if (n < 1 || set < 0 || d < 1 || a < 0) return refuseLong(BELOW);
        if (n > MOST_CUPS || set > ALL_MARKS) return refuseLong(ROOM);
        if (d > MOST_CUPS || a > ABLEST) return refuseLong(ROOM);
        return Numbers.partOf(looking.stops(n, set, d, a), Numbers.power(ABLEST, n), part);
    }

    public int kept(int n, int set, int p) {
        if (n < 1 || set < 0 || p < 0) return refuse(BELOW);
        if (n > MOST_CUPS || set > ALL_MARKS || p > THOUSAND) return refuse(ROOM);
        long all = Numbers.power(ABLEST, n);
        for (int d = 1; d <= MOST_CUPS; d++) {
            if (Numbers.against(looking.stops(n, set, d, BY_LOT), all, p) <= 0) return d;
        }
        return MOST_CUPS + 1;
    }

    public long many(int rule, int plan, int m, int part) {
        if (noPart(part)) return refuseLong(OTHER);
        Rule by = ruleAt(rule);
        Plan asked = planAt(plan);
        if (by == null || asked == null) return refuseLong(NOBODY);
        if (m < 1) return refuseLong(BELOW);
        if (m > MOST_CLAIMS) return refuseLong(ROOM);
        long held = heldBy(by, asked, asked.nobody);
        // In least terms first: what a NOBODY's odds lie below is so small that its fourth power fits.
        long above = Numbers.partOf(held, asked.nobody.all(), 0);
        long below = Numbers.partOf(held, asked.nobody.all(), 1);
        long allCases = Numbers.power(below, m);
        return Numbers.partOf(allCases - Numbers.power(below - above, m), allCases, part);
    }

    public long gain(int plan, int a, int part) {
        if (noPart(part)) return refuseLong(OTHER);
        Plan asked = planAt(plan);
        if (asked == null) return refuseLong(NOBODY);
        if (asked.kind != FIXED) return refuseLong(STATE);
        if (a < 0) return refuseLong(BELOW);
        if (a > ABLEST) return refuseLong(ROOM);
        Ends ends = endsOf(asked, a);
        // FIXED has two cups or more, so that all its cases part into ten.
        long asItSeems = ends.all() / ABLEST * a * asked.n;
        return Numbers.partOf(ends.together() - asItSeems, ends.all(), part);
    }

    public long belief(int plan, int x, int y, int a, int rightAndPart) {
        int right = rightAndPart / 10;
        int part = rightAndPart % 10;
        if (noPart(part)) return refuseLong(OTHER);
        Plan asked = planAt(plan);
        if (asked == null) return refuseLong(NOBODY);
        if (x < 0 || y < 0 || a < 0 || right < 0) return refuseLong(BELOW);
        if (x > MOST_PARTS || y > MOST_PARTS) return refuseLong(ROOM);
        if (a > ABLEST || right > asked.most()) return refuseLong(ROOM);
        // Both are counted in the same cases of the PLAN, so that their numbers can be added.
        long byAble = y * endsOf(asked, a).just(right);
        long byBoth = x * asked.nobody.just(right) + byAble;
        if (byBoth == 0) return refuseLong(STATE);
        return Numbers.partOf(byAble, byBoth, part);
    }

    public long letter(int rule, int i, int part) {
        if (noPart(part)) return refuseLong(OTHER);
        Rule by = ruleAt(rule);
        if (by == null || planAt(i) == null) return refuseLong(NOBODY);
        long ofAll = 0;
        long ofThis = 0;
        for (int j = 0; j < plans.size(); j++) {
            Plan asked = plans.get(j);
            if (asked != null) {
                long held = heldBy(by, asked, asked.nobody);
                long inParts = Numbers.inPartsOf(NOBODY_PART, held, asked.nobody.all());
                ofAll += inParts;
                if (j == i) ofThis = inParts;
            }
        }
        if (ofAll == 0) return refuseLong(STATE);
        return Numbers.partOf(ofThis, ofAll, part);
    }

    // ---- lots and marks ----

    public int lots(int plan) {
        Plan asked = planAt(plan);
        int no = lotRefusal(asked);
        if (asked == null || no != 0) return refuse(no);
        return asked.lotCount();
    }

    public int lot(int plan, int i) {
        Plan asked = planAt(plan);
        int no = lotRefusal(asked);
        if (asked == null || no != 0) return refuse(no);
        if (i < 0 || i >= asked.lotCount()) return refuse(NOBODY);
        return Sets.numbered(asked.n, asked.k, i);
    }

    public int rank(int plan, int set) {
        Plan asked = planAt(plan);
        int no = lotRefusal(asked);
        if (asked == null || no != 0) return refuse(no);
        if (!asked.hasLot(set)) return refuse(NOBODY);
        return Sets.numberOf(asked.n, set);
    }

    public int lean(int plan, int set) {
        Plan asked = planAt(plan);
        int no = lotRefusal(asked);
        if (asked == null || no != 0) return LEAN_REFUSAL - refuse(no);
        if (!asked.hasLot(set)) return LEAN_REFUSAL - refuse(NOBODY);
        return asked.leanOf(set);
    }

    public int even(int plan) {
        Plan asked = planAt(plan);
        int no = lotRefusal(asked);
        if (asked == null || no != 0) return refuse(no);
        int found = 0;
        int set = asked.firstLot();
        for (int i = 0; i < asked.lotCount(); i++) {
            if (asked.leanOf(set) == 0) found++;
            set = Sets.next(set);
        }
        return found;
    }

    public int bestLot(int plan) {
        Plan asked = planAt(plan);
        int no = lotRefusal(asked);
        if (asked == null || no != 0) return refuse(no);
        int set = asked.firstLot();
        int best = set;
        for (int i = 0; i < asked.lotCount(); i++) {
            if (Math.abs(asked.leanOf(set)) < Math.abs(asked.leanOf(best))) best = set;
            set = Sets.next(set);
        }
        return best;
    }

    public int marked(int plan, int set, int mark) {
        Plan asked = planAt(plan);
        int no = lotRefusal(asked);
        if (asked == null || no != 0) return refuse(no);
        if (!asked.hasLot(set)) return refuse(NOBODY);
        if (mark < 0) return refuse(BELOW);
        if (mark > ALL_MARKS) return refuse(ROOM);
        return Sets.alike(asked.n, set, mark);
    }

    public int free(int plan, int mark, int r) {
        Plan asked = planAt(plan);
        int no = lotRefusal(asked);
        if (asked == null || no != 0) return refuse(no);
        if (mark < 0 || r < 0) return refuse(BELOW);
        if (mark > ALL_MARKS || r > asked.n) return refuse(ROOM);
        int found = 0;
        int set = asked.firstLot();
        for (int i = 0; i < asked.lotCount(); i++) {
            if (Sets.alike(asked.n, set, mark) == r) found++;
            set = Sets.next(set);
        }
        return found;
    }

    // ---- the drawer ----

    public int sit(int plan, int right, boolean told) {
        Plan asked = planAt(plan);
        if (asked == null) return refuse(NOBODY);
        if (right < 0) return refuse(BELOW);
        if (right > asked.most() || sittings.size() >= MOST_SITTINGS) return refuse(ROOM);
        sittings.add(new Sitting(plan, right, told));
        if (told) toldInAll++;
        return sittings.size() - 1;
    }

    public int show(int sitting) {
        if (sitting < 0 || sitting >= sittings.size()) return refuse(NOBODY);
        Sitting shown = sittings.get(sitting);
        if (shown == null) return refuse(NOBODY);
        if (shown.told) return refuse(STATE);
        shown.told = true;
        toldInAll++;
        return 1;
    }

    public int drawer(int plan, int what) {
        Plan asked = planAt(plan);
        if (asked == null) return refuse(NOBODY);
        switch (what) {
            case 0: return sittingsOf(plan);
            case 1: return toldOf(plan);
            case 2: return rightOf(plan);
            // Those not told may all have been 0 RIGHT.
            case 3: return rightOf(plan);
            case 4: return rightOf(plan) + (sittingsOf(plan) - toldOf(plan)) * asked.most();
            default: return refuse(OTHER);
        }
    }

    public int turned(int plan, int p) {
        Plan asked = planAt(plan);
        if (asked == null) return refuse(NOBODY);
        int all = sittingsOf(plan);
        if (all == 0) return refuse(STATE);
        if (p < 0) return refuse(BELOW);
        if (p > THOUSAND) return refuse(ROOM);
        int hidden = all - toldOf(plan);
        int right = rightOf(plan);
        for (int turned = 0; turned <= hidden; turned++) {
            int together = right + (hidden - turned) * asked.most();
            if (together * THOUSAND <= p * asked.most() * all) return turned;
        }
        return NONE;
    }

    public int count(int what) {
        switch (what) {
            case 0: return plans.size();
            case 1: return rules.size();
            case 2: return sittings.size();
            case 3: return toldInAll;
            case 4: return tape.fed();
            default: return refusalsCounted(what - FIRST_REFUSAL_COUNT);
        }
    }

    // ---- refusals ----

    private int refuse(int refusal) {
        int at = NOBODY - refusal;
        if (at >= 0 && at < refusals.length) refusals[at]++;
        return refusal;
    }

    private long refuseLong(int refusal) {
        return LONG_REFUSAL - refuse(refusal);
    }

    private int refusalsCounted(int at) {
        return at >= 0 && at < refusals.length ? refusals[at] : NONE;
    }

    private static boolean noPart(int part) {
        return part != 0 && part != 1;
    }

    private static int lotRefusal(Plan asked) {
        if (asked == null) return NOBODY;
        return asked.kind == FIXED ? 0 : STATE;
    }

    // ---- what the calls share ----

    private Plan planAt(int plan) {
        return plan >= 0 && plan < plans.size() ? plans.get(plan) : null;
    }

    private Rule ruleAt(int rule) {
        return rule >= 0 && rule < rules.size() ? rules.get(rule) : null;
    }

    private Ends endsOf(Plan asked, int a) {
        if (a == BY_LOT) return asked.nobody;
        able.fill(asked.kind, asked.n, asked.k, a);
        return able;
    }

    private static long heldBy(Rule by, Plan asked, Ends ends) {
        long held = 0;
        for (int right = 0; right <= asked.most(); right++) {
            long just = ends.just(right);
            if (just != 0 && by.holds(asked, right)) held += just;
        }
        return held;
    }

    private int sittingsOf(int plan) {
        int found = 0;
        for (int i = 0; i < sittings.size(); i++) {
            Sitting one = sittings.get(i);
            if (one != null && one.plan == plan) found++;
        }
        return found;
    }

    private int toldOf(int plan) {
        int found = 0;
        for (int i = 0; i < sittings.size(); i++) {
            Sitting one = sittings.get(i);
            if (one != null && one.told && one.plan == plan) found++;
        }
        return found;
    }

    private int rightOf(int plan) {
        int right = 0;
        for (int i = 0; i < sittings.size(); i++) {
            Sitting one = sittings.get(i);
            if (one != null && one.told && one.plan == plan) right += one.right;
        }
        return right;
    }

    private static int fewestOf(int kind) {
        return kind == FIXED ? 2 : 1;
    }

    private static int mostOf(int kind) {
        switch (kind) {
            case PAIRED: return 6;
            case ODD: return 4;
            case BLOCKED: return 3;
            default: return MOST_CUPS;
        }
    }

    private static int mostRight(int kind, int n) {
        return kind == BLOCKED ? BLOCK_CUPS * n : n;
    }

    private static int mostNamed(int kind, int n) {
        return kind == BLOCKED ? BLOCK_CUPS - 1 : n - 1;
    }

    /** A PLAN; how a NOBODY fares is asked so often that it is worked out once. */
    private static final class Plan {
        final int kind;
        final int n;
        final int k;
        final Ends nobody = new Ends();

        Plan(int kind, int n, int k) {
            this.kind = kind;
            this.n = n;
            this.k = k;
            nobody.fill(kind, n, k, BY_LOT);
        }

        int most() {
            return mostRight(kind, n);
        }

        int lotCount() {
            return (int) Numbers.ways(n, k);
        }

        int firstLot() {
            return (1 << k) - 1;
        }

        boolean hasLot(int set) {
            return set >= 0 && set < 1 << n && Integer.bitCount(set) == k;
        }

        int leanOf(int set) {
            return Sets.places(n, set) * n - k * Sets.places(n, ALL_MARKS);
        }
    }

    /** A SITTING in the drawer. */
    private static final class Sitting {
        final int plan;
        final int right;
        boolean told;

        Sitting(int plan, int right, boolean told) {
            this.plan = plan;
            this.right = right;
            this.told = told;
        }
    }

    /**
     * In how many of all cases each END comes. Cases are equally likely and whole: ten for each cup,
     * and for a lot that she draws so many that each such lot parts them evenly. Twelve cups make at
     * most 27720 times the 12th power of ten, which leaves a long room for a factor of 300.
     */
    private static final class Ends {
        private final long[] cases = new long[MOST_CUPS + 1];
        private final long[] block = new long[BLOCK_CUPS + 1];
        private final long[] joined = new long[MOST_CUPS + 1];
        private long allCases = 1;
        private int most = 0;

        void fill(int kind, int n, int k, int a) {
            Arrays.fill(cases, 0);
            most = mostRight(kind, n);
            switch (kind) {
                case FIXED:
                    allCases = fillFixed(cases, n, k, a);
                    break;
                case PAIRED:
                    fillEach(n, rightOfPair(a), 2 * ABLEST * ABLEST);
                    break;
                case ODD:
                    fillEach(n, rightOfThree(a), 3 * ABLEST * ABLEST * ABLEST);
                    break;
                case BLOCKED:
                    fillBlocks(n, k, a);
                    break;
                default:
                    fillEach(n, a, ABLEST);
                    break;
            }
        }

        /** If just one seems as it is, the two seem alike, and half of the lots are right. */
        private static long rightOfPair(int a) {
            long b = ABLEST - a;
            return 2 * a * a + 2 * a * b;
        }

        /**
         * If all seem as they are, or none, the unlike one still seems so. If only that one does, or
         * only that one doesn't, the three seem alike, and a third of the lots are right.
         */
        private static long rightOfThree(int a) {
            long b = ABLEST - a;
            return 3 * (a * a * a + b * b * b) + a * b * b + a * a * b;
        }

        private void fillEach(int n, long right, long of) {
            for (int i = 0; i <= n && i < cases.length; i++) {
                cases[i] = Numbers.ways(n, i) * Numbers.power(right, i) * Numbers.power(of - right, n - i);
            }
            allCases = Numbers.power(of, n);
        }

        private void fillBlocks(int n, int k, int a) {
            Arrays.fill(block, 0);
            long blockCases = fillFixed(block, BLOCK_CUPS, k, a);
            if (cases.length > 0) cases[0] = 1;
            allCases = 1;
            for (int i = 0; i < n; i++) {
                joinBlock();
                allCases = allCases * blockCases;
            }
        }

        private void joinBlock() {
            Arrays.fill(joined, 0);
            for (int i = 0; i < cases.length; i++) {
                for (int j = 0; j < block.length && i + j < joined.length; j++) {
                    joined[i + j] += cases[i] * block[j];
                }
            }
            System.arraycopy(joined, 0, cases, 0, Math.min(joined.length, cases.length));
        }

        /** By how many of the k milk first seem so (good), and how many of the others seem so too (bad). */
        private static long fillFixed(long[] into, int n, int k, int a) {
            int b = ABLEST - a;
            long lots = Numbers.evenLots(n);
            for (int good = 0; good <= k; good++) {
                for (int bad = 0; bad <= n - k; bad++) {
                    int asTheyAre = good + n - k - bad;
                    long seem = Numbers.ways(k, good) * Numbers.ways(n - k, bad)
                            * Numbers.power(a, asTheyAre) * Numbers.power(b, n - asTheyAre);
                    if (seem != 0) addNamed(into, n, k, good, bad, seem * lots);
                }
            }
            return Numbers.power(ABLEST, n) * lots;
        }

        /** She draws all from those that seem milk first; or she has all these, and draws from the rest. */
        private static void addNamed(long[] into, int n, int k, int good, int bad, long seem) {
            boolean suffice = good + bad >= k;
            int had = suffice ? 0 : good;
            int draws = suffice ? k : k - good - bad;
            int goodOnes = suffice ? good : k - good;
            int badOnes = suffice ? bad : n - k - bad;
            long lots = Numbers.ways(goodOnes + badOnes, draws);
            if (lots == 0) return;
            for (int drawn = 0; drawn <= draws; drawn++) {
                long ways = Numbers.ways(goodOnes, drawn) * Numbers.ways(badOnes, draws - drawn);
                // Each milk first that she misses costs two: it, and another that she names for it.
                int right = n - 2 * (k - had - drawn);
                if (right >= 0 && right < into.length) into[right] += seem / lots * ways;
            }
        }

        long just(int right) {
            return right >= 0 && right < cases.length ? cases[right] : 0;
        }

        long all() {
            return allCases;
        }

        long orMore(int right) {
            long sum = 0;
            for (int i = Math.max(right, 0); i < cases.length; i++) {
                sum += cases[i];
            }
            return sum;
        }

        long together() {
            long sum = 0;
            for (int i = 0; i < cases.length; i++) {
                sum += i * cases[i];
            }
            return sum;
        }

        int lineFor(int p) {
            int line = most + 1;
            for (int right = most; right >= 0; right--) {
                if (Numbers.against(orMore(right), allCases, p) > 0) return line;
                line = right;
            }
            return line;
        }
    }

    /** LOOKING WELL, walked cup by cup over RIGHT less the others. */
    private static final class Looking {
        private final long[] ahead = new long[2 * MOST_CUPS + 1];
        private final long[] after = new long[2 * MOST_CUPS + 1];

        /** In how many of ten cases for each of n cups she stops. */
        long stops(int n, int set, int d, int a) {
            Arrays.fill(ahead, 0);
            if (MOST_CUPS < ahead.length) ahead[MOST_CUPS] = 1;
            long stopped = 0;
            for (int cup = 0; cup < n && cup < MOST_CUPS; cup++) {
                taste(a);
                stopped = stopped * ABLEST;
                if ((set >> cup & 1) == 1) stopped += stopFrom(d);
            }
            return stopped;
        }

        private void taste(int a) {
            Arrays.fill(after, 0);
            for (int i = 0; i < ahead.length; i++) {
                if (i + 1 < after.length) after[i + 1] += ahead[i] * a;
                if (i > 0 && i - 1 < after.length) after[i - 1] += ahead[i] * (ABLEST - a);
            }
            System.arraycopy(after, 0, ahead, 0, Math.min(after.length, ahead.length));
        }

        private long stopFrom(int d) {
            long stopped = 0;
            for (int i = Math.max(MOST_CUPS + d, 0); i < ahead.length; i++) {
                stopped += ahead[i];
                ahead[i] = 0;
            }
            return stopped;
        }
    }

    /**
     * THE TAPE. Its text is read into a code that a RULE can work through without recursion: what an
     * operation works on comes before it. A number stands as it is, a letter or an operation as its
     * sign below 0.
     */
    private static final class Tape {
        private static final int DEEPEST = 4;
        private static final int END = -1;

        private final int[] text = new int[MOST_BYTES];
        private final int[] code = new int[MOST_BYTES];
        private int textLength = 0;
        private int codeLength = 0;
        private int at = 0;
        private int fault = -1;

        int fed() {
            return textLength;
        }

        void take(int sign) {
            if (textLength >= 0 && textLength < text.length) {
                text[textLength] = sign;
                textLength++;
            }
        }

        void clear() {
            textLength = 0;
        }

        /** The place of the FAULT; -1, if there is none. */
        int read() {
            codeLength = 0;
            at = 0;
            fault = -1;
            readOr(0);
            if (sign() != END) faultHere();
            return fault;
        }

        int[] codeRead() {
            return Arrays.copyOf(code, Math.max(codeLength, 0));
        }

        private void readOr(int depth) {
            readAnd(depth);
            for (int i = 0; i < textLength && sign() == '|'; i++) {
                at++;
                readAnd(depth);
                write(-'|');
            }
        }

        private void readAnd(int depth) {
            readTest(depth);
            for (int i = 0; i < textLength && sign() == '&'; i++) {
                at++;
                readTest(depth);
                write(-'&');
            }
        }

        private void readTest(int depth) {
            int first = sign();
            boolean deeper = first == '!' || first == '(';
            if (deeper && depth >= DEEPEST) {
                faultHere();
            } else if (first == '!') {
                at++;
                readTest(depth + 1);
                write(-'!');
            } else if (first == '(') {
                at++;
                readOr(depth + 1);
                if (sign() == ')') at++;
                else faultHere();
            } else {
                readSum();
                int between = sign();
                if (between != '<' && between != '=' && between != '>') faultHere();
                at++;
                readSum();
                write(-between);
            }
        }

        private void readSum() {
            readUnit();
            for (int i = 0; i < textLength; i++) {
                int by = sign();
                if (by != '+' && by != '-' && by != '*') return;
                at++;
                readUnit();
                write(-by);
            }
        }

        private void readUnit() {
            int first = sign();
            if (isLetter(first)) {
                at++;
                write(-first);
            } else if (isDigit(first)) {
                at++;
                int number = first - '0';
                int second = sign();
                if (isDigit(second)) {
                    at++;
                    number = 10 * number + second - '0';
                }
                write(number);
            } else {
                faultHere();
            }
        }

        private static boolean isDigit(int sign) {
            return sign >= '0' && sign <= '9';
        }

        static boolean isLetter(int sign) {
            return sign == 'r' || sign == 'w' || sign == 's' || sign == 'n' || sign == 'k' || sign == 'p';
        }

        private int sign() {
            return fault < 0 && at >= 0 && at < textLength && at < text.length ? text[at] : END;
        }

        private void write(int entry) {
            if (codeLength >= 0 && codeLength < code.length) {
                code[codeLength] = entry;
                codeLength++;
            }
        }

        /** The first stays; behind it no sign is seen any more, so that the reading ends. */
        private void faultHere() {
            if (fault < 0) fault = at;
        }
    }

    /** A RULE, as THE TAPE's reading has written it. What holds stands as 1, what doesn't as 0. */
    private static final class Rule {
        private final int[] code;
        private final long[] stack;
        private int standing = 0;

        Rule(int[] code) {
            this.code = code;
            this.stack = new long[code.length];
        }

        boolean holds(Plan asked, int right) {
            standing = 0;
            for (int i = 0; i < code.length; i++) {
                int entry = code[i];
                if (entry >= 0) {
                    push(entry);
                } else if (entry == -'!') {
                    push(1 - pop());
                } else if (Tape.isLetter(-entry)) {
                    push(valueOf(-entry, asked, right));
                } else {
                    long second = pop();
                    push(joined(-entry, pop(), second));
                }
            }
            return pop() == 1;
        }

        private static long valueOf(int letter, Plan asked, int right) {
            switch (letter) {
                case 'r': return right;
                case 'w': return asked.most() - right;
                case 's': return asked.most();
                case 'n': return asked.n;
                case 'k': return asked.k;
                default: return asked.kind;
            }
        }

        private static long joined(int by, long first, long second) {
            switch (by) {
                case '+': return first + second;
                case '-': return first - second;
                case '*': return first * second;
                case '<': return first < second ? 1 : 0;
                case '=': return first == second ? 1 : 0;
                case '>': return first > second ? 1 : 0;
                case '&': return first & second;
                default: return first | second;
            }
        }

        private void push(long value) {
            if (standing >= 0 && standing < stack.length) {
                stack[standing] = value;
                standing++;
            }
        }

        private long pop() {
            if (standing <= 0 || standing > stack.length) return 0;
            standing--;
            return stack[standing];
        }
    }

    /** Sets of cups as bits, in the order of their numbers. */
    private static final class Sets {
        private Sets() {
        }

        /** For each cup in the set, those of as many cups lie below it that lack this cup and agree above it. */
        static int numberOf(int n, int set) {
            long below = 0;
            int held = 0;
            for (int cup = 0; cup < n; cup++) {
                if ((set >> cup & 1) == 1) {
                    held++;
                    below += Numbers.ways(cup, held);
                }
            }
            return (int) below;
        }

        static int numbered(int n, int k, int number) {
            int set = 0;
            int lacking = k;
            long left = number;
            for (int cup = n - 1; cup >= 0; cup--) {
                long without = Numbers.ways(cup, lacking);
                if (lacking > 0 && left >= without) {
                    set = set | 1 << cup;
                    left -= without;
                    lacking--;
                }
            }
            return set;
        }

        /** The next of as many cups: of the lowest run the top goes up by one, the rest to the bottom. */
        static int next(int set) {
            int raised = set + (set & -set);
            int down = Integer.bitCount(set ^ raised) - 2;
            return raised | (1 << Math.max(down, 0)) - 1;
        }

        static int places(int n, int set) {
            int sum = 0;
            for (int cup = 0; cup < n; cup++) {
                if ((set >> cup & 1) == 1) sum += cup;
            }
            return sum;
        }

        static int alike(int n, int set, int mark) {
            return n - Integer.bitCount((set ^ mark) & (1 << n) - 1);
        }
    }

    /** Whole numbers and what lies above and below the line. */
    private static final class Numbers {
        /** Pascal's triangle, row behind row, up to twelve. */
        private static final int[] WAYS = {
            1,
            1, 1,
            1, 2, 1,
            1, 3, 3, 1,
            1, 4, 6, 4, 1,
            1, 5, 10, 10, 5, 1,
            1, 6, 15, 20, 15, 6, 1,
            1, 7, 21, 35, 35, 21, 7, 1,
            1, 8, 28, 56, 70, 56, 28, 8, 1,
            1, 9, 36, 84, 126, 126, 84, 36, 9, 1,
            1, 10, 45, 120, 210, 252, 210, 120, 45, 10, 1,
            1, 11, 55, 165, 330, 462, 462, 330, 165, 55, 11, 1,
            1, 12, 66, 220, 495, 792, 924, 792, 495, 220, 66, 12, 1};
        /** The least that each number up to the place divides; each number of ways up to there does. */
        private static final int[] EVEN_LOTS = {1, 1, 2, 6, 12, 60, 60, 420, 840, 2520, 2520, 27720, 27720};
        /** Euclid's steps for two longs are fewer than a hundred. */
        private static final int EUCLID_STEPS = 1000;

        private Numbers() {
        }

        static long ways(int n, int k) {
            if (n < 0 || n > MOST_CUPS || k < 0 || k > n) return 0;
            int at = n * (n + 1) / 2 + k;
            return at >= 0 && at < WAYS.length ? WAYS[at] : 0;
        }

        static long evenLots(int n) {
            return n >= 0 && n < EVEN_LOTS.length ? EVEN_LOTS[n] : 1;
        }

        static long power(long base, int times) {
            long product = 1;
            for (int i = 0; i < times && i <= MOST_CUPS; i++) {
                product = product * base;
            }
            return product;
        }

        private static long commonFactor(long a, long b) {
            long greater = Math.abs(a);
            long lesser = Math.abs(b);
            for (int i = 0; i < EUCLID_STEPS && lesser != 0; i++) {
                long left = greater % lesser;
                greater = lesser;
                lesser = left;
            }
            return greater;
        }

        /** A fraction in least terms: what is above (0) or below (1) the line. */
        static long partOf(long above, long below, int part) {
            long factor = commonFactor(above, below);
            if (factor == 0) return part;
            return (part == 0 ? above : below) / factor;
        }

        /** The fraction as so many of a whole that its least terms divide. */
        static long inPartsOf(long whole, long above, long below) {
            long least = partOf(above, below, 1);
            if (least == 0) return 0;
            return whole / least * partOf(above, below, 0);
        }

        /** Below 0, 0 or above, as the fraction is to the thousandths; cut, so that nothing goes round. */
        static int against(long above, long below, int thousandths) {
            long factor = commonFactor(below, THOUSAND);
            if (factor == 0) return 0;
            return Long.compare(THOUSAND / factor * above, below / factor * thousandths);
        }
    }
}
