/** The odds by the words of the document: every way in which the cups can seem, and every lot she can draw. */
final class Tasting {
    /** It parts into every number of lots that there can be. */
    private static final int PARTED = 27720;
    private static final long[][][][] NAMINGS = new long[13][13][][];

    private Tasting() {
    }

    /** How often each END comes. */
    static Ratio[] ends(int kind, int n, int k, int a) {
        if (kind == 0) return repeated(cup(a), n);
        if (kind == 1) return fixed(n, k, a);
        if (kind == 2) return repeated(pair(a), n);
        if (kind == 3) return repeated(three(a), n);
        return repeated(fixed(4, k, a), n);
    }

    private static Ratio[] repeated(Ratio[] once, int n) {
        Ratio[] ends = {Ratio.ONE};
        for (int i = 0; i < n; i++) {
            Ratio[] next = zeros(ends.length + once.length - 1);
            for (int j = 0; j < ends.length; j++) {
                for (int l = 0; l < once.length; l++) {
                    next[j + l] = next[j + l].plus(ends[j].times(once[l]));
                }
            }
            ends = next;
        }
        return ends;
    }

    private static Ratio[] cup(int a) {
        return new Ratio[] {Ratio.of(10 - a, 10), Ratio.of(a, 10)};
    }

    /** How often cups that are so seem so. */
    private static Ratio seems(int n, int are, int seem, int a) {
        int asTheyAre = n - Integer.bitCount(are ^ seem);
        return Ratio.of(a, 10).power(asTheyAre).times(Ratio.of(10 - a, 10).power(n - asTheyAre));
    }

    private static Ratio[] pair(int a) {
        Ratio right = Ratio.ZERO;
        for (int are = 1; are <= 2; are++) {
            for (int seem = 0; seem < 4; seem++) {
                Ratio says = seem == are ? Ratio.ONE : seem == 3 - are ? Ratio.ZERO : Ratio.of(1, 2);
                right = right.plus(Ratio.of(1, 2).times(seems(2, are, seem, a)).times(says));
            }
        }
        return new Ratio[] {Ratio.ONE.minus(right), right};
    }

    private static Ratio[] three(int a) {
        Ratio right = Ratio.ZERO;
        for (int unlike = 0; unlike < 3; unlike++) {
            for (int turned = 0; turned < 2; turned++) {
                int are = turned == 0 ? 1 << unlike : 7 - (1 << unlike);
                for (int seem = 0; seem < 8; seem++) {
                    int named = seem == 0 || seem == 7 ? -1 : unlikeOf(seem);
                    Ratio says = named < 0 ? Ratio.of(1, 3) : named == unlike ? Ratio.ONE : Ratio.ZERO;
                    right = right.plus(Ratio.of(1, 6).times(seems(3, are, seem, a)).times(says));
                }
            }
        }
        return new Ratio[] {Ratio.ONE.minus(right), right};
    }

    private static int unlikeOf(int seem) {
        int one = Integer.bitCount(seem) == 1 ? seem : 7 - seem;
        return Integer.numberOfTrailingZeros(one);
    }

    private static Ratio[] fixed(int n, int k, int a) {
        long[][] namings = NAMINGS[n][k];
        if (namings == null) {
            namings = namings(n, k);
            NAMINGS[n][k] = namings;
        }
        Ratio[] ends = zeros(n + 1);
        for (int asTheyAre = 0; asTheyAre <= n; asTheyAre++) {
            Ratio each = Ratio.of(a, 10).power(asTheyAre).times(Ratio.of(10 - a, 10).power(n - asTheyAre));
            for (int i = 0; i <= n; i++) {
                ends[i] = ends[i].plus(each.times(Ratio.of(namings[asTheyAre][i], PARTED)));
            }
        }
        return ends;
    }

    /**
     * By how many cups seem as they are, and how many are RIGHT: the namings, PARTED for each seeming.
     * All lots are alike, so that one of them tells for all: the first k cups are milk first.
     */
    private static long[][] namings(int n, int k) {
        int are = (1 << k) - 1;
        long[][] namings = new long[n + 1][n + 1];
        for (int seem = 0; seem < 1 << n; seem++) {
            long all = 0;
            long[] right = new long[n + 1];
            for (int named = 0; named < 1 << n; named++) {
                if (Integer.bitCount(named) != k) continue;
                boolean inside = (named & ~seem) == 0;
                boolean around = (seem & ~named) == 0;
                if (Integer.bitCount(seem) >= k ? !inside : !around) continue;
                all++;
                right[n - Integer.bitCount(named ^ are)]++;
            }
            if (PARTED % all != 0) throw new IllegalStateException(PARTED + " by " + all);
            for (int i = 0; i <= n; i++) {
                namings[n - Integer.bitCount(seem ^ are)][i] += PARTED / all * right[i];
            }
        }
        return namings;
    }

    static Ratio[] zeros(int n) {
        Ratio[] zeros = new Ratio[n];
        java.util.Arrays.fill(zeros, Ratio.ZERO);
        return zeros;
    }

    static Ratio orMore(Ratio[] ends, int right) {
        Ratio sum = Ratio.ZERO;
        for (int i = right; i < ends.length; i++) {
            sum = sum.plus(ends[i]);
        }
        return sum;
    }

    static Ratio mean(Ratio[] ends) {
        Ratio sum = Ratio.ZERO;
        for (int i = 0; i < ends.length; i++) {
            sum = sum.plus(ends[i].times(i));
        }
        return sum;
    }

    static int line(Ratio[] nobody, int p) {
        for (int right = 0; right < nobody.length; right++) {
            if (orMore(nobody, right).compareTo(Ratio.of(p, 1000)) <= 0) return right;
        }
        return nobody.length;
    }

    /** How often she stops, over every way in which the cups can come out. */
    static Ratio stops(int n, int set, int d, int a) {
        long[] stopping = new long[n + 1];
        for (int way = 0; way < 1 << n; way++) {
            int ahead = 0;
            boolean stopped = false;
            for (int cup = 0; cup < n; cup++) {
                ahead += (way >> cup & 1) == 1 ? 1 : -1;
                if ((set >> cup & 1) == 1 && ahead >= d) stopped = true;
            }
            if (stopped) stopping[Integer.bitCount(way)]++;
        }
        Ratio sum = Ratio.ZERO;
        for (int right = 0; right <= n; right++) {
            Ratio each = Ratio.of(a, 10).power(right).times(Ratio.of(10 - a, 10).power(n - right));
            sum = sum.plus(each.times(stopping[right]));
        }
        return sum;
    }
}
