import java.util.Arrays;
import java.util.function.Supplier;

/**
 * What a call's sentence tells of its REFUSALS, with every mix of the arguments that are given: the
 * first that fits is answered and counted once, and nothing else changes.
 */
final class Mixes {
    interface Call {
        long answer(MilkFirst x, int[] v);
    }

    interface Fits {
        boolean fits(int[] v);
    }

    record No(int refusal, Fits when) {
    }

    private final Bounds bounds;
    private final Supplier<MilkFirst> made;
    private final long[] before;
    private final long[] seenBefore;

    /** Each mix gets an object of its own, all made alike. */
    Mixes(Bounds bounds, Supplier<MilkFirst> made) {
        this.bounds = bounds;
        this.made = made;
        before = counts(made.get());
        seenBefore = seen(made.get());
    }

    static int[] some(int... values) {
        return values;
    }

    /** The least and the greatest that are taken, what lies just beyond, and what lies far beyond. */
    static int[] around(int least, int greatest) {
        return some(Integer.MIN_VALUE, least - 1, least, greatest, greatest + 1, Integer.MAX_VALUE);
    }

    static No no(int refusal, Fits when) {
        return new No(refusal, when);
    }

    /** Refused, a call answers the REFUSAL itself (base 0), or base less it. */
    void refused(String name, long base, Call call, int[][] values, No... order) {
        int mixes = 1;
        for (int[] one : values) {
            mixes *= one.length;
        }
        for (int mix = 0; mix < mixes; mix++) {
            int[] v = new int[values.length];
            int left = mix;
            for (int i = 0; i < v.length; i++) {
                v[i] = values[i][left % values[i].length];
                left /= values[i].length;
            }
            check(name + Arrays.toString(v), base, call, v, firstOf(order, v));
        }
    }

    private static int firstOf(No[] order, int[] v) {
        for (No no : order) {
            if (no.when().fits(v)) return no.refusal();
        }
        return 0;
    }

    private void check(String told, long base, Call call, int[] v, int refusal) {
        MilkFirst x = made.get();
        long answer = call.answer(x, v);
        if (refusal != 0) bounds.due(told, answer, base == 0 ? refusal : base - refusal);
        for (int i = 1; i <= 6; i++) {
            bounds.due(told + ", and then count(" + (10 + i) + ")", x.count(10 + i), before[10 + i] + (refusal == -i ? 1 : 0));
        }
        if (refusal == 0) return;
        for (int i = 0; i <= 4; i++) {
            bounds.due(told + ", and then count(" + i + ")", x.count(i), before[i]);
        }
        long[] seen = seen(x);
        bounds.due(told + ", and then the same is seen", Arrays.mismatch(seen, seenBefore), -1);
    }

    private static long[] counts(MilkFirst x) {
        long[] counts = new long[17];
        for (int what = 0; what < counts.length; what++) {
            counts[what] = x.count(what);
        }
        return counts;
    }

    /** What an object's state shows: PLANS, the drawer, RULES, THE TAPE, and the numbers that come next. */
    private static long[] seen(MilkFirst x) {
        long[] seen = new long[90];
        int at = 0;
        for (int plan = 0; plan < 6; plan++) {
            seen[at++] = x.size(plan);
            seen[at++] = x.odds(plan, 5, 2, 1);
            seen[at++] = x.turned(plan, 500);
            for (int what = 0; what <= 4; what++) {
                seen[at++] = x.drawer(plan, what);
            }
            for (int rule = 0; rule < 3; rule++) {
                seen[at++] = x.believed(rule, plan, 6, 1);
            }
        }
        seen[at++] = x.rule();
        seen[at++] = x.believed(2, 0, 6, 1);
        for (int sitting = 0; sitting < 5; sitting++) {
            seen[at++] = x.show(sitting);
        }
        seen[at++] = x.sit(0, 0, true);
        seen[at] = x.plan(0, 1, 0);
        return seen;
    }
}
