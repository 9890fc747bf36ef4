import java.util.Random;

/**
 * Runs of calls with arguments of all sorts: none throws, each REFUSAL is counted once, and an object
 * that gets just the calls that are not refused stands where the other stands.
 */
public final class AnyCallsTest {
    private static final Checks CHECKS = new Checks();
    private static final int[] EDGES = {Integer.MIN_VALUE, Integer.MIN_VALUE + 1, -1000, -2, -1, 13, 30, 31, 99, 100, 999, 1000, 1001,
        4095, 4096, 65536, Integer.MAX_VALUE - 1, Integer.MAX_VALUE};
    private static final String[] TEXTS = {"r=s", "r>w&k=4", "!(w<2)|p=3", "r*2>n+1", "w=0|w=1", "r==", "((((r=1))))", "!!!!!r=1"};

    private static final int[] BEGINNINGS = {1, 1, 0, 1, 26};

    public static void main(String[] args) {
        for (int run = 0; run < 1500; run++) {
            checkRun(new Random(run));
        }
        for (int run = 0; run < 50; run++) {
            callOn(new Random(run));
        }
        CHECKS.end("AnyCallsTest");
    }

    /** What later calls than the 512th answer is free; but they answer. */
    private static void callOn(Random dice) {
        MilkFirst x = new MilkFirst();
        for (int i = 0; i < 2000; i++) {
            call(x, dice.nextInt(31), values(dice));
        }
    }

    private static int[] values(Random dice) {
        int[] values = new int[5];
        for (int i = 0; i < values.length; i++) {
            values[i] = value(dice);
        }
        return values;
    }

    private static void checkRun(Random dice) {
        MilkFirst x = new MilkFirst();
        MilkFirst accepted = new MilkFirst();
        int[] refused = new int[7];
        for (int i = 0; i < 260; i++) {
            // First texts, PLANS and SITTINGS, so that the others find some.
            int which = i < 20 ? BEGINNINGS[i % BEGINNINGS.length] : dice.nextInt(31);
            int[] v = values(dice);
            long answer = call(x, which, v);
            int refusal = refusalOf(which, answer);
            if (refusal != 0) refused[-refusal]++;
            else CHECKS.due("the same without the refused, call " + which, call(accepted, which, v), answer);
        }
        for (int i = 1; i <= 6; i++) {
            CHECKS.due("refusals -" + i, x.count(10 + i), refused[i]);
        }
        for (int what = 0; what <= 4; what++) {
            CHECKS.due("count " + what, x.count(what), accepted.count(what));
        }
        compare(x, accepted);
    }

    private static void compare(MilkFirst x, MilkFirst y) {
        int plans = Math.min(x.count(0), 10);
        int rules = Math.min(x.count(1), 4);
        for (int plan = 0; plan < plans; plan++) {
            CHECKS.due("size", x.size(plan), y.size(plan));
            CHECKS.due("mean", x.mean(plan, 6, 0), y.mean(plan, 6, 0));
            for (int what = 0; what <= 4; what++) {
                CHECKS.due("drawer", x.drawer(plan, what), y.drawer(plan, what));
            }
            for (int rule = 0; rule < rules; rule++) {
                CHECKS.due("believed", x.believed(rule, plan, 8, 1), y.believed(rule, plan, 8, 1));
            }
        }
    }

    private static int value(Random dice) {
        int sort = dice.nextInt(10);
        if (sort < 7) return dice.nextInt(9);
        if (sort == 7) return dice.nextInt(60);
        if (sort == 8) return dice.nextInt(4096);
        return EDGES[dice.nextInt(EDGES.length)];
    }

    private static int refusalOf(int which, long answer) {
        boolean isLong = which == 3 || which == 4 || which == 5 || which == 9 || which == 12
            || which == 14 || which == 15 || which == 16 || which == 17;
        long refusal = isLong ? 4000000000000000000L - answer : which == 22 ? 1000000000 - answer : answer;
        return which != 30 && refusal <= -1 && refusal >= -6 ? (int) refusal : 0;
    }

    private static long call(MilkFirst x, int which, int[] v) {
        switch (which) {
            case 0: return feedText(x, v);
            case 1: return x.plan(v[0], v[1], v[2]);
            case 2: return x.size(v[0]);
            case 3: return x.odds(v[0], v[1], v[2], v[3] & 3);
            case 4: return x.least(v[0], v[1], v[2], v[3] & 1);
            case 5: return x.mean(v[0], v[1], v[2] & 1);
            case 6: return x.feed(v[0], (long) v[1] << 32 ^ v[2]);
            case 7: return x.rule();
            case 8: return x.believes(v[0], v[1], v[2]);
            case 9: return x.believed(v[0], v[1], v[2], v[3] & 1);
            case 10: return x.line(v[0], v[1]);
            case 11: return x.fewest(v[0], v[1], v[2], v[3]);
            case 12: return x.well(v[0], v[1], v[2], v[3], v[4] & 1);
            case 13: return x.kept(v[0], v[1], v[2]);
            case 14: return x.many(v[0], v[1], v[2], v[3] & 1);
            case 15: return x.gain(v[0], v[1], v[2] & 1);
            case 16: return x.belief(v[0], v[1], v[2], v[3], v[4] / 10 * 10 + v[4] % 2);
            case 17: return x.letter(v[0], v[1], v[2] & 1);
            case 18: return x.lots(v[0]);
            case 19: return x.lot(v[0], v[1]);
            case 20: return x.rank(v[0], v[1]);
            case 21: return x.even(v[0]);
            case 22: return x.lean(v[0], v[1]);
            case 23: return x.bestLot(v[0]);
            case 24: return x.marked(v[0], v[1], v[2]);
            case 25: return x.free(v[0], v[1], v[2]);
            case 26: return x.sit(v[0], v[1], (v[2] & 1) == 0);
            case 27: return x.show(v[0]);
            case 28: return x.drawer(v[0], v[1]);
            case 29: return x.turned(v[0], v[1]);
            default: return x.count(v[0] % 5);
        }
    }

    /** Only where there is room for the whole text and its RULE, so that none of these calls is refused. */
    private static long feedText(MilkFirst x, int[] v) {
        String text = TEXTS[Math.floorMod(v[0], TEXTS.length)];
        if (x.count(4) + text.length() > 40 || x.count(1) == 20) return 0;
        Checks.feed(x, text);
        return x.rule();
    }
}
