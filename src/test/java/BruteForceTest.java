/** Each PLAN that can be, against the odds by the document's words, with fractions of any length. */
public final class BruteForceTest {
    private static final Checks CHECKS = new Checks();
    private static final int[] LEAST_N = {1, 2, 1, 1, 1};
    private static final int[] MOST_N = {12, 12, 6, 4, 3};
    private static final int[] THOUSANDTHS = {0, 1, 3, 10, 14, 15, 20, 37, 38, 50, 62, 63, 125, 333, 500, 850, 999, 1000};

    public static void main(String[] args) {
        for (int kind = 0; kind <= 4; kind++) {
            for (int n = LEAST_N[kind]; n <= MOST_N[kind]; n++) {
                int most = kind == 1 ? n - 1 : kind == 4 ? 3 : 0;
                for (int k = Math.min(1, most); k <= most; k++) {
                    checkPlan(kind, n, k);
                }
            }
        }
        checkFewest();
        checkLooking();
        checkMany();
        checkLetters();
        checkLots();
        CHECKS.end("BruteForceTest");
    }

    private static void checkPlan(int kind, int n, int k) {
        String name = "plan " + kind + " " + n + " " + k;
        Ratio[] nobody = Tasting.ends(kind, n, k, 5);
        for (int a = 0; a <= 10; a++) {
            MilkFirst x = new MilkFirst();
            x.plan(kind, n, k);
            Ratio[] ends = Tasting.ends(kind, n, k, a);
            CHECKS.due(name + " size", x.size(0), ends.length - 1);
            for (int part = 0; part < 2; part++) {
                for (int right = 0; right < ends.length; right++) {
                    CHECKS.due(name + " odds " + a + " " + right, x.odds(0, a, right, part), ends[right].part(part));
                }
                for (int right = 0; right <= ends.length; right++) {
                    CHECKS.due(name + " least " + a + " " + right, x.least(0, a, right, part),
                            Tasting.orMore(ends, right).part(part));
                }
                CHECKS.due(name + " mean " + a, x.mean(0, a, part), Tasting.mean(ends).part(part));
                if (kind == 1) {
                    Ratio gain = Tasting.mean(ends).minus(Ratio.of(a * n, 10));
                    CHECKS.due(name + " gain " + a, x.gain(0, a, part), gain.part(part));
                }
            }
            checkBeliefs(x, name, a, nobody, ends);
        }
        MilkFirst x = new MilkFirst();
        x.plan(kind, n, k);
        for (int p : THOUSANDTHS) {
            CHECKS.due(name + " line " + p, x.line(0, p), Tasting.line(nobody, p));
        }
    }

    private static void checkBeliefs(MilkFirst x, String name, int a, Ratio[] nobody, Ratio[] ends) {
        int[][] weights = {{1, 1}, {99, 99}, {98, 99}, {97, 89}, {0, 7}, {7, 0}, {99, 1}};
        for (int[] weight : weights) {
            for (int right = 0; right < ends.length; right++) {
                Ratio byAble = ends[right].times(weight[1]);
                Ratio byBoth = nobody[right].times(weight[0]).plus(byAble);
                for (int part = 0; part < 2; part++) {
                    long due = byBoth.isZero() ? 4000000000000000003L : byAble.over(byBoth).part(part);
                    CHECKS.due(name + " belief " + weight[0] + " " + weight[1] + " " + a + " " + right,
                            x.belief(0, weight[0], weight[1], a, right * 10 + part), due);
                }
            }
        }
    }

    private static void checkFewest() {
        int[] shares = {0, 1, 100, 333, 500, 800, 900, 999, 1000};
        for (int kind = 0; kind <= 3; kind++) {
            for (int p : THOUSANDTHS) {
                for (int a = 0; a <= 10; a++) {
                    MilkFirst x = new MilkFirst();
                    for (int q : shares) {
                        CHECKS.due("fewest " + kind + " " + p + " " + a + " " + q, x.fewest(kind, p, a, q),
                                fewest(kind, p, a, q));
                    }
                }
            }
        }
    }

    private static final Ratio[][][][] ENDS = new Ratio[4][13][11][];

    private static Ratio[] halved(int kind, int n, int a) {
        if (ENDS[kind][n][a] == null) ENDS[kind][n][a] = Tasting.ends(kind, n, kind == 1 ? n / 2 : 0, a);
        return ENDS[kind][n][a];
    }

    private static int fewest(int kind, int p, int a, int q) {
        for (int n = LEAST_N[kind]; n <= MOST_N[kind]; n++) {
            int line = Tasting.line(halved(kind, n, 5), p);
            if (Tasting.orMore(halved(kind, n, a), line).compareTo(Ratio.of(q, 1000)) >= 0) return n;
        }
        return -9;
    }

    private static void checkLooking() {
        for (int n = 1; n <= 12; n++) {
            int step = n <= 5 ? 1 : n <= 9 ? 13 : 371;
            for (int set = 0; set < 1 << n; set += step) {
                checkLookingAt(n, set);
            }
            checkLookingAt(n, (1 << n) - 1);
            checkLookingAt(n, 1 << n - 1);
            MilkFirst x = new MilkFirst();
            CHECKS.due("well " + n + " with cups beyond", x.well(n, 4095, 1, 7, 0), x.well(n, (1 << n) - 1, 1, 7, 0));
        }
    }

    private static void checkLookingAt(int n, int set) {
        MilkFirst x = new MilkFirst();
        Ratio[] nobody = new Ratio[13];
        for (int d = 1; d <= 12; d++) {
            nobody[d] = Tasting.stops(n, set, d, 5);
            int a = (set + 3 * d) % 11;
            Ratio able = Tasting.stops(n, set, d, a);
            for (int part = 0; part < 2; part++) {
                CHECKS.due("well " + n + " " + set + " " + d + " 5", x.well(n, set, d, 5, part), nobody[d].part(part));
                CHECKS.due("well " + n + " " + set + " " + d + " " + a, x.well(n, set, d, a, part), able.part(part));
            }
        }
        for (int p : THOUSANDTHS) {
            int due = 1;
            while (due <= 12 && nobody[due].compareTo(Ratio.of(p, 1000)) > 0) {
                due++;
            }
            CHECKS.due("kept " + n + " " + set + " " + p, x.kept(n, set, p), due);
        }
    }

    /** Each LINE of each PLAN as a RULE. */
    private static void checkMany() {
        for (int kind = 0; kind <= 4; kind++) {
            for (int n = LEAST_N[kind]; n <= MOST_N[kind]; n++) {
                int most = kind == 1 ? n - 1 : kind == 4 ? 3 : 0;
                for (int k = Math.min(1, most); k <= most; k++) {
                    MilkFirst x = new MilkFirst();
                    x.plan(kind, n, k);
                    Ratio[] ends = Tasting.ends(kind, n, k, 5);
                    for (int line = 0; line <= ends.length && line < 20; line++) {
                        int rule = Checks.rule(x, "r+1>" + line);
                        Ratio believed = Tasting.orMore(ends, line);
                        for (int m = 1; m <= 4; m++) {
                            Ratio due = Ratio.ONE.minus(Ratio.ONE.minus(believed).power(m));
                            CHECKS.due("many " + kind + " " + n + " " + k + " " + line + " " + m,
                                    x.many(rule, 0, m, 0), due.part(0));
                            CHECKS.due("many " + kind + " " + n + " " + k + " " + line + " " + m,
                                    x.many(rule, 0, m, 1), due.part(1));
                        }
                        CHECKS.due("believed " + kind + " " + n + " " + k + " " + line,
                                x.believed(rule, 0, 5, 1), believed.part(1));
                    }
                }
            }
        }
    }

    /** Thirty PLANS of all KINDS, and RULES that hold for some of their ENDS. */
    private static void checkLetters() {
        int[][] shapes = new int[30][];
        for (int i = 0; i < 30; i++) {
            int kind = i % 5;
            int n = MOST_N[kind] - i / 5 % (MOST_N[kind] - LEAST_N[kind] + 1);
            int k = kind == 1 ? 1 + i % (n - 1) : kind == 4 ? 1 + i / 5 % 3 : 0;
            shapes[i] = new int[] {kind, n, k};
        }
        for (String text : new String[] {"r=s", "w<2", "r>n-k", "r*2>s&!p=0", "r-w*2<0-3", "n=12|k=2", "p=4"}) {
            checkLettersBy(text, shapes);
        }
    }

    private static void checkLettersBy(String text, int[][] shapes) {
        MilkFirst x = new MilkFirst();
        CHECKS.due("rule " + text, Checks.rule(x, text), 0);
        Ratio[] believed = new Ratio[shapes.length];
        Ratio all = Ratio.ZERO;
        for (int i = 0; i < shapes.length; i++) {
            CHECKS.due("plan " + i, x.plan(shapes[i][0], shapes[i][1], shapes[i][2]), i);
            Ratio[] ends = Tasting.ends(shapes[i][0], shapes[i][1], shapes[i][2], 5);
            believed[i] = Ratio.ZERO;
            for (int right = 0; right < ends.length; right++) {
                if (x.believes(0, i, right) == 1) believed[i] = believed[i].plus(ends[right]);
            }
            all = all.plus(believed[i]);
        }
        for (int i = 0; i < shapes.length; i++) {
            Ratio due = believed[i].over(all);
            CHECKS.due("letter " + text + " " + i, x.letter(0, i, 0), due.part(0));
            CHECKS.due("letter " + text + " " + i, x.letter(0, i, 1), due.part(1));
        }
    }

    private static void checkLots() {
        for (int n = 2; n <= 12; n++) {
            for (int k = 1; k < n; k++) {
                checkLotsOf(n, k);
            }
        }
    }

    private static void checkLotsOf(int n, int k) {
        MilkFirst x = Given.plan(1, n, k);
        String name = "lots of " + n + " " + k + ": ";
        int found = 0;
        int even = 0;
        int best = -1;
        int bestLean = 0;
        int mark = (n * 389 + k * 1013) % 4096;
        int[] free = new int[n + 1];
        for (int set = -2; set < (1 << n) + 5; set++) {
            // Four calls a set: a new object before the 512th.
            if (set % 100 == 0) x = Given.plan(1, n, k);
            if (set < 0 || set >= 1 << n || Integer.bitCount(set) != k) {
                CHECKS.due(name + "rank " + set, x.rank(0, set), -1);
                CHECKS.due(name + "lean " + set, x.lean(0, set), 1000000001);
                CHECKS.due(name + "marked " + set, x.marked(0, set, mark), -1);
                continue;
            }
            int lean = 0;
            int alike = 0;
            for (int cup = 0; cup < n; cup++) {
                lean += (set >> cup & 1) * cup * n - k * cup;
                if ((set >> cup & 1) == (mark >> cup & 1)) alike++;
            }
            CHECKS.due(name + "lot " + found, x.lot(0, found), set);
            CHECKS.due(name + "rank " + set, x.rank(0, set), found);
            CHECKS.due(name + "lean " + set, x.lean(0, set), lean);
            CHECKS.due(name + "marked " + set, x.marked(0, set, mark), alike);
            if (lean == 0) even++;
            if (best < 0 || Math.abs(lean) < bestLean) {
                best = set;
                bestLean = Math.abs(lean);
            }
            free[alike]++;
            found++;
        }
        x = Given.plan(1, n, k);
        CHECKS.due(name + "lots", x.lots(0), found);
        CHECKS.due(name + "lot beyond", x.lot(0, found), -1);
        CHECKS.due(name + "even", x.even(0), even);
        CHECKS.due(name + "bestLot", x.bestLot(0), best);
        for (int r = 0; r <= n; r++) {
            CHECKS.due(name + "free " + r, x.free(0, mark, r), free[r]);
        }
    }
}
