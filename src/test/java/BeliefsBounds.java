import static java.lang.Integer.MAX_VALUE;
import static java.lang.Integer.MIN_VALUE;

/** Part III of the Terms and promises 13 to 18: LOOKING WELL, MANY, GAIN, BELIEF and LETTER. */
final class BeliefsBounds {
    private static final long L = Bounds.LONG_REFUSAL;
    private static final int[] PLANS = Mixes.around(0, 4);
    private static final int[] RULES = Mixes.around(0, 1);
    private static final int[] CUPS = Mixes.around(1, 12);
    private static final int[] SETS = Mixes.around(0, 4095);
    private static final int[] ABLE = Mixes.around(0, 10);
    private static final int[] PARTS = Mixes.around(0, 1);
    private static final int[] THOUSANDTHS = Mixes.around(0, 1000);

    private final Bounds b;
    private final Mixes some;

    BeliefsBounds(Bounds bounds) {
        b = bounds;
        some = new Mixes(bounds, Given::some);
    }

    void run() {
        terms();
        well();
        kept();
        many();
        gain();
        belief();
        letter();
    }

    private void terms() {
        b.part("==== III.", "==== IV.");
        lookingWell();
        kepts();
        manys();
        gains();
        beliefs();
        letters();
        b.allQuoted();
    }

    private void lookingWell() {
        b.sentence("LOOKING WELL: cups of a LOOSE one, one by one, up to N (1 .. 12): behind each cup of a set (bits: 0 the first)"
            + " one looks and stops, if RIGHT so far less the others is D or more (1 .. 12): how often one stops so, ABLE by a.");
        MilkFirst x = new MilkFirst();
        b.fraction("one cup", part -> x.well(1, 1, 1, 7, part), 7, 10);
        b.fraction("one cup, two are asked", part -> x.well(1, 1, 2, 10, part), 0, 1);
        b.fraction("bit 0 is the first of twelve", part -> x.well(12, 1, 1, 7, part), 7, 10);
        b.fraction("bit 11 is the twelfth, all right", part -> x.well(12, 2048, 12, 9, part), 282429536481L, 1000000000000L);
        b.fraction("the last set, the greatest D", part -> x.well(12, 4095, 12, 9, part), 282429536481L, 1000000000000L);
        b.fraction("eleven cups are never twelve ahead", part -> x.well(11, 4095, 12, 10, part), 0, 1);
        b.fraction("nobody looks", part -> x.well(12, 0, 1, 10, part), 0, 1);
        b.fraction("just D", part -> x.well(2, 2, 2, 9, part), 81, 100);
        b.fraction("more than D", part -> x.well(2, 2, 1, 9, part), 81, 100);
        b.fraction("less than D in two of three", part -> x.well(3, 4, 2, 5, part), 1, 8);
        b.fraction("two of three ahead by one, three by three", part -> x.well(3, 4, 1, 5, part), 1, 2);
        b.fraction("who has stopped has stopped", part -> x.well(3, 5, 1, 5, part), 5, 8);
        b.fraction("even is not ahead", part -> x.well(2, 2, 1, 5, part), 1, 4);
        b.fraction("always right", part -> x.well(12, 4095, 1, 10, part), 1, 1);
        b.fraction("never right", part -> x.well(12, 4095, 1, 0, part), 0, 1);
        b.fraction("ahead in the last of twelve only", part -> x.well(12, 2048, 11, 10, part), 1, 1);
    }

    private void kepts() {
        b.sentence("KEPT: the least D such that a NOBODY does in no more than p thousandths; 13, if none.");
        MilkFirst x = new MilkFirst();
        b.due("just p", x.kept(1, 1, 500), 1);
        b.due("just more than p", x.kept(1, 1, 499), 2);
        // Twelve ahead of twelve is 1 of 4096, ten or more is 13 of 4096, and eight or more is 79.
        b.due("the greatest D", x.kept(12, 2048, 0), 13);
        b.due("less than a thousandth", x.kept(12, 2048, 1), 11);
        b.due("13 of 4096 are more than 3 thousandths", x.kept(12, 2048, 3), 11);
        b.due("13 of 4096 are less than 4 thousandths", x.kept(12, 2048, 4), 9);
        b.due("of eleven twelve never are", x.kept(11, 4095, 0), 12);
        b.due("none", x.kept(12, 4095, 0), 13);
        b.due("nobody looks", x.kept(12, 0, 0), 1);
        b.due("all may", x.kept(12, 4095, 1000), 1);
    }

    private void manys() {
        b.sentence("MANY: of m (1 .. 4) of them, all NOBODIES, at least one is BELIEVED by a RULE.");
        MilkFirst x = Given.rules("r=s", "r<0", "r<99");
        x.plan(Given.LOOSE, 1, 0);
        x.plan(Given.LOOSE, 12, 0);
        x.plan(Given.FIXED, 12, 6);
        int[][] ofHalf = {{1, 2}, {3, 4}, {7, 8}, {15, 16}};
        for (int m = 1; m <= 4; m++) {
            int of = m;
            b.fraction("a half each, " + m, part -> x.many(0, 0, of, part), ofHalf[m - 1][0], ofHalf[m - 1][1]);
            b.fraction("never, " + m, part -> x.many(1, 0, of, part), 0, 1);
            b.fraction("always, " + m, part -> x.many(2, 0, of, part), 1, 1);
        }
        b.fraction("the rarest of four", part -> x.many(0, 1, 4, part), 274777260031L, 281474976710656L);
        b.fraction("of twelve cups, six", part -> x.many(0, 2, 1, part), 1, 924);
        b.due("none of them", x.many(0, 0, 0, 0), L + 4);
        b.due("five of them", x.many(0, 0, 5, 0), L + 6);
    }

    private void gains() {
        b.sentence("GAIN: of FIXED: how many more cups are RIGHT in the mean, if she knows K as told above,"
            + " than if she says of each as it seems.");
        MilkFirst x = Given.plan(Given.FIXED, 2, 1);
        x.plan(Given.FIXED, 4, 1);
        x.plan(Given.FIXED, 12, 11);
        for (int a = 0; a <= 10; a++) {
            int able = a;
            b.fraction("two cups are a pair", part -> x.gain(0, able, part), 0, 1);
        }
        b.fraction("all the other way: two of four", part -> x.gain(1, 0, part), 2, 1);
        b.fraction("all the other way: ten of twelve", part -> x.gain(2, 0, part), 10, 1);
        b.fraction("a nobody has 5 of 8", part -> x.gain(1, 5, part), 1, 2);
        b.fraction("all as they are", part -> x.gain(2, 10, part), 0, 1);
        MilkFirst eight = Given.plan(Given.FIXED, 8, 4);
        b.fraction("she can lose", part -> eight.gain(0, 7, part), -7749, 31250);
    }

    private void beliefs() {
        b.sentence("BELIEF: it was weighed: x parts NOBODY, y parts ABLE by a (0 .. 99 each, not both 0): how often she is ABLE,"
            + " when just r are RIGHT (of those cases).");
        MilkFirst x = Given.plan(Given.LOOSE, 1, 0);
        b.fraction("the greatest parts, .5 and .9", part -> x.belief(0, 99, 99, 9, 10 + part), 9, 14);
        b.fraction("99 and 1", part -> x.belief(0, 99, 1, 9, 10 + part), 1, 56);
        b.fraction("no part NOBODY", part -> x.belief(0, 0, 1, 9, part), 1, 1);
        b.fraction("no part ABLE", part -> x.belief(0, 1, 0, 9, 10 + part), 0, 1);
        b.fraction("ABLE is never so", part -> x.belief(0, 1, 99, 10, part), 0, 1);
        b.due("both 0", x.belief(0, 0, 0, 9, 10), L + 3);
        b.due("100 NOBODY", x.belief(0, 100, 1, 9, 10), L + 6);
        b.due("100 ABLE", x.belief(0, 1, 100, 9, 10), L + 6);
        b.due("-1 NOBODY", x.belief(0, -1, 1, 9, 10), L + 4);
        b.due("-1 ABLE", x.belief(0, 1, -1, 9, 10), L + 4);
    }

    private void letters() {
        b.sentence("LETTER: it is known that a RULE BELIEVED a NOBODY, by one of all PLANS (each as likely): how often it was the i-th.");
        MilkFirst one = Given.rules("r=s");
        one.plan(Given.LOOSE, 12, 0);
        b.fraction("there is but one", part -> one.letter(0, 0, part), 1, 1);
        one.plan(Given.LOOSE, 1, 0);
        b.fraction("1 of 4096, 1 of 2", part -> one.letter(0, 0, part), 1, 2049);
        b.fraction("1 of 4096, 1 of 2, the other", part -> one.letter(0, 1, part), 2048, 2049);
        MilkFirst sure = Given.rules("n=1|r=s");
        sure.plan(Given.LOOSE, 12, 0);
        sure.plan(Given.LOOSE, 1, 0);
        b.fraction("1 of 4096, and the other always", part -> sure.letter(0, 0, part), 1, 4097);
        MilkFirst x = Given.rules("r=s", "r=0&p=0");
        for (int i = 0; i < 30; i++) {
            x.plan(i < 29 ? Given.FIXED : Given.LOOSE, 2, 1);
        }
        // 29 are right in a half of all cases, the last in a quarter.
        b.fraction("the first of 30", part -> x.letter(0, 0, part), 2, 59);
        b.fraction("the last of 30", part -> x.letter(0, 29, part), 1, 59);
        b.fraction("by the last alone", part -> x.letter(1, 29, part), 1, 1);
        b.fraction("not by the first", part -> x.letter(1, 0, part), 0, 1);
    }

    private void well() {
        b.promise(13);
        b.plainly("well `long well(int n, int set, int d, int a, int part)`:");
        b.sentence("LOOKING WELL (set 0 .. 4095; cups from n on count nothing).");
        MilkFirst x = new MilkFirst();
        b.fraction("the least set", part -> x.well(12, 0, 1, 5, part), 0, 1);
        b.fraction("the greatest set", part -> x.well(12, 4095, 12, 5, part), 1, 4096);
        for (int n = 1; n < 12; n++) {
            int cups = n;
            b.fraction("from " + n + " on", part -> x.well(cups, 4096 - (1 << cups), 1, 10, part), 0, 1);
            b.fraction("just before " + n, part -> x.well(cups, 1 << cups - 1, cups, 10, part), 1, 1);
            b.fraction("from " + n + " on, and the first", part -> x.well(cups, 4096 - (1 << cups) | 1, 1, 7, part), 7, 10);
        }
        b.due("below", x.well(12, -1, 1, 5, 0), L + 4);
        b.due("above", x.well(12, 4096, 1, 5, 0), L + 6);
        b.sentence("-2; -4; -6.");
        some.refused("well", L, (y, v) -> y.well(v[0], v[1], v[2], v[3], v[4]), new int[][] {CUPS, SETS, CUPS, ABLE, PARTS},
            Mixes.no(-2, v -> Given.noPart(v[4])), Mixes.no(-4, v -> v[0] < 1 || v[1] < 0 || v[2] < 1 || v[3] < 0),
            Mixes.no(-6, v -> v[0] > 12 || v[1] > 4095 || v[2] > 12 || v[3] > 10));
        b.allQuoted();
    }

    private void kept() {
        b.promise(14);
        b.plainly("kept `int kept(int n, int set, int p)`:");
        b.sentence("KEPT.");
        MilkFirst x = new MilkFirst();
        b.due("the least", x.kept(1, 0, 0), 1);
        b.due("the greatest", x.kept(12, 4095, 0), 13);
        b.due("cups from n on", x.kept(2, 4092, 0), 1);
        b.sentence("-4; -6.");
        some.refused("kept", 0, (y, v) -> y.kept(v[0], v[1], v[2]), new int[][] {CUPS, SETS, THOUSANDTHS},
            Mixes.no(-4, v -> v[0] < 1 || v[1] < 0 || v[2] < 0), Mixes.no(-6, v -> v[0] > 12 || v[1] > 4095 || v[2] > 1000));
        b.allQuoted();
    }

    private void many() {
        b.promise(15);
        b.plainly("many `long many(int rule, int plan, int m, int part)`:");
        b.sentence("MANY.");
        MilkFirst x = Given.some();
        b.fraction("the least m", part -> x.many(0, 0, 1, part), 1, 8);
        b.fraction("the greatest m", part -> x.many(0, 0, 4, part), 1695, 4096);
        b.sentence("-2; -1; -4; -6.");
        some.refused("many", L, (y, v) -> y.many(v[0], v[1], v[2], v[3]), new int[][] {RULES, PLANS, Mixes.around(1, 4), PARTS},
            Mixes.no(-2, v -> Given.noPart(v[3])), Mixes.no(-1, v -> Given.noRule(v[0]) || Given.noPlan(v[1])),
            Mixes.no(-4, v -> v[2] < 1), Mixes.no(-6, v -> v[2] > 4));
        b.allQuoted();
    }

    private void gain() {
        b.promise(16);
        b.plainly("gain `long gain(int plan, int a, int part)`:");
        b.sentence("GAIN.");
        MilkFirst x = Given.some();
        b.fraction("the least a: she names two of three for two", part -> x.gain(1, 0, part), 1, 1);
        b.fraction("the greatest a", part -> x.gain(1, 10, part), 0, 1);
        b.sentence("-2; -1; -3 it is not FIXED (BLOCKED is not); -4; -6.");
        int[] plans = Mixes.some(MIN_VALUE, -1, 0, 1, 2, 3, 4, 5, MAX_VALUE);
        some.refused("gain", L, (y, v) -> y.gain(v[0], v[1], v[2]), new int[][] {plans, ABLE, PARTS},
            Mixes.no(-2, v -> Given.noPart(v[2])), Mixes.no(-1, v -> Given.noPlan(v[0])), Mixes.no(-3, v -> v[0] != Given.FIXED),
            Mixes.no(-4, v -> v[1] < 0), Mixes.no(-6, v -> v[1] > 10));
        b.allQuoted();
    }

    private void belief() {
        b.promise(17);
        b.plainly("belief `long belief(int plan, int x, int y, int a, int rightAndPart)`:");
        b.sentence("BELIEF (r is rightAndPart by 10, part what is left, both cut toward 0).");
        MilkFirst x = Given.plan(Given.LOOSE, 12, 0);
        b.due("0 is none right, above", x.belief(0, 1, 0, 5, 0), 0);
        b.due("1 is none right, below", x.belief(0, 1, 0, 5, 1), 1);
        b.due("120 is twelve right, above", x.belief(0, 0, 1, 10, 120), 1);
        b.due("121 is twelve right, below", x.belief(0, 0, 1, 10, 121), 1);
        b.due("110 is eleven right", x.belief(0, 0, 1, 10, 110), L + 3);
        b.due("130 is thirteen", x.belief(0, 1, 1, 5, 130), L + 6);
        b.due("129 is twelve, part 9", x.belief(0, 1, 1, 5, 129), L + 2);
        b.due("2 is part 2", x.belief(0, 1, 1, 5, 2), L + 2);
        b.due("-1 is none right, part -1", x.belief(0, 1, 1, 5, -1), L + 2);
        b.due("-9 is none right, part -9", x.belief(0, 1, 1, 5, -9), L + 2);
        b.due("-10 is one below none", x.belief(0, 1, 1, 5, -10), L + 4);
        b.due("-11 is part -1", x.belief(0, 1, 1, 5, -11), L + 2);
        b.sentence("-2 part; -1; -4; -6 (x, y; a; RIGHT above SIZE); -3 both 0, or there are no such cases.");
        int[] parts = Mixes.around(0, 99);
        int[] rightAndParts = Mixes.some(MIN_VALUE, -20, -11, -10, -9, -1, 0, 1, 2, 9, 10, 20, 21, 30, 40, 50, 51, 52, 60, MAX_VALUE);
        some.refused("belief", L, (y, v) -> y.belief(v[0], v[1], v[2], v[3], v[4]),
            new int[][] {Mixes.some(-1, 0, 1, 4, 5), parts, parts, ABLE, rightAndParts},
            Mixes.no(-2, v -> Given.noPart(v[4] % 10)), Mixes.no(-1, v -> Given.noPlan(v[0])),
            Mixes.no(-4, v -> v[1] < 0 || v[2] < 0 || v[3] < 0 || v[4] / 10 < 0),
            Mixes.no(-6, v -> v[1] > 99 || v[2] > 99 || v[3] > 10 || v[4] / 10 > Given.size(v[0])),
            Mixes.no(-3, v -> v[1] == 0 && v[2] == 0 || noCases(v[0], v[1], v[3], v[4] / 10)));
        b.due("both 0", x.belief(0, 0, 0, 5, 60), L + 3);
        b.due("only NOBODY is so", x.belief(0, 1, 0, 10, 60), 0);
        b.due("ABLE never is so", x.belief(0, 0, 99, 10, 60), L + 3);
        b.due("no case is so", Given.plan(Given.FIXED, 8, 4).belief(0, 99, 99, 5, 70), L + 3);
        b.allQuoted();
    }

    /** Of LOOSE 3, FIXED 5 2 or BLOCKED 1 2, of x parts NOBODY, the others ABLE by 0 or 10. */
    private static boolean noCases(int plan, int x, int a, int right) {
        // Of FIXED 5 2 and BLOCKED 1 2 each wrong name goes with another.
        if (plan != Given.LOOSE && (Given.size(plan) - right) % 2 != 0) return true;
        if (x > 0) return false;
        // Of FIXED 5 2 one who is right of none names two of the other three: one cup is RIGHT.
        int least = plan == Given.FIXED ? 1 : 0;
        return right != (a == 0 ? least : Given.size(plan));
    }

    private void letter() {
        b.promise(18);
        b.plainly("letter `long letter(int rule, int i, int part)`:");
        b.sentence("LETTER.");
        MilkFirst x = Given.some();
        // 1 of 8, 10, 4, 9, 6.
        long[] due = {45, 36, 90, 40, 60};
        for (int i = 0; i < 5; i++) {
            int plan = i;
            b.fraction("it was " + i, part -> x.letter(0, plan, part), due[plan], 271);
        }
        b.sentence("-2; -1 either; -3 it BELIEVES none of any.");
        some.refused("letter", L, (y, v) -> y.letter(v[0], v[1], v[2]), new int[][] {RULES, PLANS, PARTS},
            Mixes.no(-2, v -> Given.noPart(v[2])), Mixes.no(-1, v -> Given.noRule(v[0]) || Given.noPlan(v[1])),
                Mixes.no(-3, v -> v[0] == 1));
        MilkFirst none = Given.rules("r=s");
        b.due("no PLANS", none.letter(0, 0, 0), L + 1);
        b.due("no RULES", Given.plan(Given.LOOSE, 1, 0).letter(0, 0, 0), L + 1);
        MilkFirst odd = Given.rules("r=1");
        odd.plan(Given.FIXED, 2, 1);
        b.due("an END that never comes", odd.letter(0, 0, 0), L + 3);
        odd.plan(Given.LOOSE, 1, 0);
        b.fraction("one that comes now", part -> odd.letter(0, 1, part), 1, 1);
        b.fraction("not by the first", part -> odd.letter(0, 0, part), 0, 1);
        b.allQuoted();
    }
}
