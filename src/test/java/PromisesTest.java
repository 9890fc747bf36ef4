/** The promises one by one: ordinary calls, the edges that the document names, and wrong calls. */
public final class PromisesTest {
    private static final long L = 4000000000000000000L;
    private static final Checks CHECKS = new Checks();

    public static void main(String[] args) {
        newObject();
        plan();
        size();
        odds();
        least();
        mean();
        feed();
        rule();
        faults();
        believes();
        believed();
        line();
        fewest();
        well();
        kept();
        many();
        gain();
        belief();
        letter();
        lots();
        lot();
        rank();
        lean();
        even();
        bestLot();
        marked();
        free();
        sit();
        show();
        drawer();
        turned();
        count();
        CHECKS.end("PromisesTest");
    }

    private static void due(String call, long got, long want) {
        CHECKS.due(call, got, want);
    }

    private static void fraction(String call, long above, long below, long wantAbove, long wantBelow) {
        due(call + " above", above, wantAbove);
        due(call + " below", below, wantBelow);
    }

    /** Plans 0 .. 4: LOOSE 8, FIXED 8 4, PAIRED 4, ODD 3, BLOCKED 2 2. */
    private static MilkFirst fivePlans() {
        MilkFirst x = new MilkFirst();
        x.plan(0, 8, 0);
        x.plan(1, 8, 4);
        x.plan(2, 4, 0);
        x.plan(3, 3, 0);
        x.plan(4, 2, 2);
        return x;
    }

    private static void newObject() {
        MilkFirst x = new MilkFirst();
        for (int what = 0; what <= 4; what++) {
            due("new count " + what, x.count(what), 0);
        }
        for (int what = 11; what <= 16; what++) {
            due("new count " + what, x.count(what), 0);
        }
        due("new size", x.size(0), -1);
        due("another object has its own", new MilkFirst().count(11), 0);
    }

    private static void plan() {
        MilkFirst x = new MilkFirst();
        due("kind below", x.plan(-1, 0, 0), -2);
        due("kind above", x.plan(5, 13, 0), -2);
        due("loose n below", x.plan(0, 0, 0), -4);
        due("loose n above", x.plan(0, 13, 0), -6);
        due("loose least", x.plan(0, 1, -7), 0);
        due("loose most", x.plan(0, 12, 99), 1);
        due("fixed n below", x.plan(1, 1, 1), -4);
        due("fixed k below", x.plan(1, 5, 0), -4);
        due("fixed k below before n above", x.plan(1, 13, 0), -4);
        due("fixed n below before k above", x.plan(1, 1, 5), -4);
        due("fixed n above", x.plan(1, 13, 1), -6);
        due("fixed k above", x.plan(1, 5, 5), -6);
        due("fixed least", x.plan(1, 2, 1), 2);
        due("fixed most", x.plan(1, 12, 11), 3);
        due("paired above", x.plan(2, 7, 0), -6);
        due("paired most", x.plan(2, 6, -1), 4);
        due("odd above", x.plan(3, 5, 0), -6);
        due("odd most", x.plan(3, 4, 1), 5);
        due("blocked n above", x.plan(4, 4, 1), -6);
        due("blocked n below", x.plan(4, 0, 1), -4);
        due("blocked k below", x.plan(4, 3, 0), -4);
        due("blocked k above", x.plan(4, 1, 4), -6);
        due("blocked most", x.plan(4, 3, 3), 6);
        due("plans", x.count(0), 7);
        for (int i = 7; i < 30; i++) {
            due("plan " + i, x.plan(0, 1, 0), i);
        }
        due("plan 31", x.plan(0, 1, 0), -6);
        due("plan 31 of no kind", x.plan(9, 1, 0), -2);
        due("plan 31 below", x.plan(0, 0, 0), -4);
        due("plans at the end", x.count(0), 30);
    }

    private static void size() {
        MilkFirst x = fivePlans();
        int[] sizes = {8, 8, 4, 3, 8};
        for (int i = 0; i < 5; i++) {
            due("size " + i, x.size(i), sizes[i]);
        }
        x.plan(4, 3, 1);
        due("size of three blocks", x.size(5), 12);
        due("size below", x.size(-1), -1);
        due("size above", x.size(6), -1);
    }

    private static void odds() {
        MilkFirst x = fivePlans();
        fraction("loose nobody", x.odds(0, 5, 4, 0), x.odds(0, 5, 4, 1), 35, 128);
        fraction("fixed nobody", x.odds(1, 5, 6, 0), x.odds(1, 5, 6, 1), 8, 35);
        fraction("fixed can't be", x.odds(1, 7, 5, 0), x.odds(1, 7, 5, 1), 0, 1);
        fraction("fixed sure", x.odds(1, 10, 8, 0), x.odds(1, 10, 8, 1), 1, 1);
        fraction("fixed turned", x.odds(1, 0, 0, 0), x.odds(1, 0, 0, 1), 1, 1);
        fraction("paired able", x.odds(2, 9, 4, 0), x.odds(2, 9, 4, 1), 6561, 10000);
        fraction("odd able", x.odds(3, 9, 3, 0), x.odds(3, 9, 3, 1), 6859, 15625);
        fraction("odd turned", x.odds(3, 0, 3, 0), x.odds(3, 0, 3, 1), 1, 1);
        fraction("blocked nobody", x.odds(4, 5, 8, 0), x.odds(4, 5, 8, 1), 1, 36);
        due("part below", x.odds(0, 5, 0, -1), L + 2);
        due("part before plan", x.odds(9, 5, 0, 2), L + 2);
        due("plan before a", x.odds(5, -1, 0, 0), L + 1);
        due("a below", x.odds(0, -1, 99, 0), L + 4);
        due("right below before a above", x.odds(0, 11, -1, 0), L + 4);
        due("a above", x.odds(0, 11, 0, 0), L + 6);
        due("right above", x.odds(0, 5, 9, 0), L + 6);
        due("right above of paired", x.odds(2, 5, 5, 0), L + 6);
        due("the refusals", x.count(12) * 10000 + x.count(11) * 1000 + x.count(14) * 100 + x.count(16), 21203);
    }

    private static void least() {
        MilkFirst x = fivePlans();
        fraction("all", x.least(1, 3, 0, 0), x.least(1, 3, 0, 1), 1, 1);
        fraction("none", x.least(1, 3, 9, 0), x.least(1, 3, 9, 1), 0, 1);
        fraction("six of eight", x.least(0, 5, 6, 0), x.least(0, 5, 6, 1), 37, 256);
        fraction("seven means eight", x.least(1, 5, 7, 0), x.least(1, 5, 7, 1), 1, 70);
        due("part", x.least(0, 5, 0, 7), L + 2);
        due("plan", x.least(-1, 5, 0, 0), L + 1);
        due("right below", x.least(0, 5, -1, 0), L + 4);
        due("a below", x.least(0, -1, 0, 0), L + 4);
        due("a above", x.least(0, 11, 0, 0), L + 6);
        due("right above", x.least(0, 5, 10, 0), L + 6);
        due("right far above", x.least(0, 5, Integer.MAX_VALUE, 0), L + 6);
    }

    private static void mean() {
        MilkFirst x = fivePlans();
        fraction("loose", x.mean(0, 7, 0), x.mean(0, 7, 1), 28, 5);
        fraction("fixed nobody", x.mean(1, 5, 0), x.mean(1, 5, 1), 4, 1);
        fraction("odd nobody", x.mean(3, 5, 0), x.mean(3, 5, 1), 1, 1);
        fraction("blocked sure", x.mean(4, 10, 0), x.mean(4, 10, 1), 8, 1);
        fraction("loose never", x.mean(0, 0, 0), x.mean(0, 0, 1), 0, 1);
        due("part", x.mean(9, 5, 2), L + 2);
        due("plan", x.mean(9, -5, 0), L + 1);
        due("below", x.mean(0, -1, 0), L + 4);
        due("above", x.mean(0, 11, 0), L + 6);
    }

    private static void feed() {
        MilkFirst x = new MilkFirst();
        due("none", x.feed(0, 0), -4);
        due("below", x.feed(-1, 0), -4);
        due("above", x.feed(9, 0), -6);
        due("three, the lowest first", x.feed(3, Checks.packed("r=1zzz")), 3);
        due("they are a rule", x.rule(), 0);
        for (int i = 1; i <= 4; i++) {
            due("eights", x.feed(8, -1L), 8 * i);
        }
        due("seven", x.feed(7, 0), 39);
        due("two too many", x.feed(2, 0), -6);
        due("the last", x.feed(1, 0), 40);
        due("full", x.feed(1, 0), -6);
        due("full, and below", x.feed(0, 0), -4);
        due("tape", x.count(4), 40);
        due("bytes can be high", x.rule(), -20);
        due("refused", x.count(14) * 100 + x.count(16), 303);
    }

    private static void rule() {
        MilkFirst x = new MilkFirst();
        for (int i = 0; i < 20; i++) {
            due("rule " + i, Checks.rule(x, "r=" + i), i);
            if (i == 7) due("a fault between", Checks.rule(x, "r=="), -22);
        }
        Checks.feed(x, "r=1");
        due("the 21st", x.rule(), -6);
        due("the tape stays", x.count(4), 3);
        due("faults count nothing", x.count(11) + x.count(12) + x.count(13) + x.count(14), 0);
        due("rules", x.count(1), 20);
        due("rooms", x.count(16), 1);
        Checks.feed(x, "&");
        due("no room, whatever is on the tape", x.rule(), -6);
        due("the tape stays still", x.count(4), 4);
    }

    private static void faults() {
        MilkFirst x = new MilkFirst();
        String[] texts = {"", "r", "r=", "=", "r=1=1", "r=123", "r=1&", "r=1|", "r=1|&r=1", "(r=1", "(r=1|", "r=1)", "((r))=1",
            "!", "!!!!!r=1", "(((((r=1)))))", "!(!(!r=1))", "(!(!(r=1)))", "r = 1", "R=1", "r+=1", "-r=1", "r=-1", "(r+1)=2",
            "r=1(r=1)", "!r", "(r=1)r", "(r=1)=1", "((((", "!!!!", "!!(!!", "rr=1", "r1=1", "1r=1", "r=1!", "()", "r=1||"};
        int[] places = {0, 1, 2, 0, 3, 4, 4, 4, 4, 4, 5, 3, 3,
            1, 4, 4, 4, 4, 1, 0, 2, 0, 2, 4,
            3, 2, 5, 5, 4, 4, 4, 1, 1, 1, 3, 1, 4};
        for (int i = 0; i < texts.length; i++) {
            due("fault of " + texts[i], Checks.rule(x, texts[i]), -20 - places[i]);
            due("the tape after " + texts[i], x.count(4), 0);
        }
        due("no rule of these", x.count(1), 0);
        due("four deep", Checks.rule(x, "!(!(r=1))"), 0);
        due("four deep twice", Checks.rule(x, "!!!!r=1&((((r=1))))|!(!!r=1)"), 1);
        Checks.feed(x, "r" + "+0".repeat(18) + "=10");
        due("forty bytes", x.count(4), 40);
        due("forty bytes are a rule", x.rule(), 2);
        due("refusals", x.count(12) + x.count(13) + x.count(14) + x.count(16), 0);
    }

    private static void believes() {
        MilkFirst x = fivePlans();
        String[] texts = {"r=s", "w<2", "p=1&k=4", "n=2&s=8", "1+2*3=9", "2-3-4<0", "9-2-3=4", "!r=1&r<3", "r=1|r=2&r=3",
            "99*99*99*99*99*99*99*99*99*99*99*99<0", "05=5", "k=0", "!(r=1|r=2)", "!!r=1"};
        long wrapped = 1;
        for (int i = 0; i < 12; i++) {
            wrapped *= 99;
        }
        int[][] asked = {{0, 0, 8, 1}, {0, 0, 7, 0}, {0, 4, 8, 1}, {0, 3, 3, 1}, {1, 0, 7, 1}, {1, 0, 6, 0}, {1, 1, 7, 1},
            {2, 1, 0, 1}, {2, 4, 0, 0}, {3, 4, 0, 1}, {3, 0, 0, 0}, {4, 0, 0, 1}, {5, 0, 0, 1}, {6, 0, 0, 1},
            {7, 0, 2, 1}, {7, 0, 1, 0}, {7, 0, 3, 0}, {8, 0, 1, 1}, {8, 0, 2, 0}, {8, 0, 3, 0},
            {9, 0, 0, wrapped < 0 ? 1 : 0}, {10, 3, 1, 1}, {11, 2, 1, 1}, {11, 1, 1, 0}, {12, 0, 2, 0}, {12, 0, 3, 1},
            {13, 0, 1, 1}, {13, 0, 2, 0}};
        for (int i = 0; i < texts.length; i++) {
            due("rule " + texts[i], Checks.rule(x, texts[i]), i);
        }
        for (int[] one : asked) {
            due(texts[one[0]] + " of " + one[1] + " " + one[2], x.believes(one[0], one[1], one[2]), one[3]);
        }
        due("no rule", x.believes(14, 0, 0), -1);
        due("rule below", x.believes(-1, 0, -1), -1);
        due("no plan", x.believes(0, 5, -1), -1);
        due("below", x.believes(0, 0, -1), -4);
        due("above", x.believes(0, 0, 9), -6);
        due("above of paired", x.believes(0, 2, 5), -6);
    }

    private static void believed() {
        MilkFirst x = fivePlans();
        Checks.rule(x, "r=s");
        Checks.rule(x, "r>w");
        Checks.rule(x, "r<0");
        fraction("all right, fixed", x.believed(0, 1, 5, 0), x.believed(0, 1, 5, 1), 1, 70);
        fraction("more right, loose", x.believed(1, 0, 5, 0), x.believed(1, 0, 5, 1), 93, 256);
        fraction("more right, surely", x.believed(1, 4, 10, 0), x.believed(1, 4, 10, 1), 1, 1);
        fraction("never", x.believed(2, 0, 5, 0), x.believed(2, 0, 5, 1), 0, 1);
        fraction("turned, two blocks", x.believed(0, 4, 0, 0), x.believed(0, 4, 0, 1), 0, 1);
        fraction("turned, three of three", x.believed(0, 3, 0, 0), x.believed(0, 3, 0, 1), 1, 1);
        due("part", x.believed(9, 9, 5, 2), L + 2);
        due("rule", x.believed(3, 0, -1, 0), L + 1);
        due("plan", x.believed(0, 5, -1, 0), L + 1);
        due("below", x.believed(0, 0, -1, 0), L + 4);
        due("above", x.believed(0, 0, 11, 0), L + 6);
    }

    private static void line() {
        MilkFirst x = fivePlans();
        due("fixed, just not", x.line(1, 14), 9);
        due("fixed, just", x.line(1, 15), 7);
        due("fixed, six", x.line(1, 243), 5);
        due("fixed, just not six", x.line(1, 242), 7);
        due("loose, none", x.line(0, 3), 9);
        due("loose, eight", x.line(0, 4), 8);
        due("nothing is too much", x.line(0, 0), 9);
        due("all is enough", x.line(4, 1000), 0);
        due("paired, eighth of eighths", x.line(2, 62), 5);
        due("paired, sixteenth", x.line(2, 63), 4);
        due("no plan", x.line(5, -1), -1);
        due("below", x.line(0, -1), -4);
        due("above", x.line(0, 1001), -6);
    }

    private static void fewest() {
        MilkFirst x = new MilkFirst();
        due("loose, sure, 1 of 8", x.fewest(0, 125, 10, 1000), 3);
        due("loose, sure, less than 1 of 8", x.fewest(0, 124, 10, 1000), 4);
        due("fixed, sure, 1 of 20", x.fewest(1, 50, 10, 1000), 6);
        due("fixed, sure, 1 of 10", x.fewest(1, 100, 10, 1000), 5);
        due("fixed, anything", x.fewest(1, 0, 0, 0), 2);
        due("paired, none", x.fewest(2, 1, 10, 1000), -9);
        due("odd, 1 of 81", x.fewest(3, 13, 10, 1000), 4);
        due("odd, less than 1 of 81", x.fewest(3, 12, 10, 1), -9);
        due("odd, a nobody", x.fewest(3, 13, 5, 12), 4);
        due("odd, a nobody is not so often right", x.fewest(3, 13, 5, 13), -9);
        due("kind below", x.fewest(-1, -1, 0, 0), -2);
        due("blocked is none of these", x.fewest(4, 1, 1, 1), -2);
        due("p below", x.fewest(0, -1, 11, 0), -4);
        due("a below", x.fewest(0, 1001, -1, 0), -4);
        due("q below", x.fewest(0, 0, 0, -1), -4);
        due("p above", x.fewest(0, 1001, 0, 0), -6);
        due("a above", x.fewest(0, 0, 11, 0), -6);
        due("q above", x.fewest(0, 0, 0, 1001), -6);
        due("nothing is kept", x.count(0), 0);
    }

    private static void well() {
        MilkFirst x = new MilkFirst();
        fraction("the first", x.well(12, 1, 1, 7, 0), x.well(12, 1, 1, 7, 1), 7, 10);
        fraction("one or three", x.well(3, 5, 1, 5, 0), x.well(3, 5, 1, 5, 1), 5, 8);
        fraction("all twelve", x.well(12, 4095, 12, 9, 0), x.well(12, 4095, 12, 9, 1), 282429536481L, 1000000000000L);
        fraction("beyond n", x.well(3, 4088, 1, 9, 0), x.well(3, 4088, 1, 9, 1), 0, 1);
        fraction("surely", x.well(4, 8, 4, 10, 0), x.well(4, 8, 4, 10, 1), 1, 1);
        due("part", x.well(0, 0, 0, 0, 2), L + 2);
        due("n below", x.well(0, 5000, 1, 0, 0), L + 4);
        due("set below", x.well(1, -1, 1, 0, 0), L + 4);
        due("d below", x.well(13, 0, 0, 0, 0), L + 4);
        due("a below", x.well(1, 0, 13, -1, 0), L + 4);
        due("n above", x.well(13, 0, 1, 0, 0), L + 6);
        due("set above", x.well(12, 4096, 1, 0, 0), L + 6);
        due("d above", x.well(12, 0, 13, 0, 0), L + 6);
        due("a above", x.well(12, 0, 1, 11, 0), L + 6);
    }

    private static void kept() {
        MilkFirst x = new MilkFirst();
        due("half", x.kept(1, 1, 500), 1);
        due("less than half", x.kept(1, 1, 499), 2);
        due("all twelve: 1 of 4096", x.kept(12, 4095, 0), 13);
        due("eleven: 1 of 2048", x.kept(12, 4095, 1), 11);
        due("the last alone: 13 of 4096", x.kept(12, 2048, 4), 9);
        due("never looked", x.kept(12, 0, 0), 1);
        due("looked beyond", x.kept(2, 4092, 0), 1);
        due("n below", x.kept(0, 9999, 0), -4);
        due("set below", x.kept(1, -1, 0), -4);
        due("p below", x.kept(13, 0, -1), -4);
        due("n above", x.kept(13, 0, 0), -6);
        due("set above", x.kept(1, 4096, 0), -6);
        due("p above", x.kept(1, 0, 1001), -6);
    }

    private static void many() {
        MilkFirst x = fivePlans();
        Checks.rule(x, "r=s");
        fraction("one of one", x.many(0, 1, 1, 0), x.many(0, 1, 1, 1), 1, 70);
        fraction("one of two", x.many(0, 1, 2, 0), x.many(0, 1, 2, 1), 139, 4900);
        fraction("one of four", x.many(0, 3, 4, 0), x.many(0, 3, 4, 1), 74465, 531441);
        due("part", x.many(1, 9, 0, -1), L + 2);
        due("rule", x.many(1, 0, 0, 0), L + 1);
        due("plan", x.many(0, 5, 0, 0), L + 1);
        due("below", x.many(0, 0, 0, 0), L + 4);
        due("above", x.many(0, 0, 5, 0), L + 6);
    }

    private static void gain() {
        MilkFirst x = new MilkFirst();
        x.plan(1, 2, 1);
        x.plan(4, 1, 1);
        // Two cups with one milk first are a pair: as good as one for itself.
        fraction("as a pair", x.gain(0, 8, 0), x.gain(0, 8, 1), 0, 1);
        x.plan(1, 4, 1);
        // Once in 2 nobody would be right of four; naming one of four has five of eight right.
        fraction("a nobody gains", x.gain(2, 5, 0), x.gain(2, 5, 1), 1, 2);
        fraction("turned, she gains most", x.gain(2, 0, 0), x.gain(2, 0, 1), 2, 1);
        fraction("sure, she gains none", x.gain(2, 10, 0), x.gain(2, 10, 1), 0, 1);
        due("part", x.gain(9, 0, 2), L + 2);
        due("plan", x.gain(3, -1, 0), L + 1);
        due("blocked is not fixed", x.gain(1, -1, 0), L + 3);
        due("below", x.gain(0, -1, 0), L + 4);
        due("above", x.gain(0, 11, 0), L + 6);
    }

    private static void belief() {
        MilkFirst x = new MilkFirst();
        x.plan(0, 2, 0);
        fraction("two of two, even weights", x.belief(0, 1, 1, 10, 20), x.belief(0, 1, 1, 10, 21), 4, 5);
        fraction("one of two is for nobody", x.belief(0, 1, 1, 10, 10), x.belief(0, 1, 1, 10, 11), 0, 1);
        fraction("no nobody", x.belief(0, 0, 99, 7, 0), x.belief(0, 0, 99, 7, 1), 1, 1);
        fraction("a nobody either way", x.belief(0, 90, 30, 5, 10), x.belief(0, 90, 30, 5, 11), 1, 4);
        due("part 2", x.belief(9, -1, 0, 0, 22), L + 2);
        due("part below", x.belief(0, 1, 1, 5, -9), L + 2);
        due("plan", x.belief(1, -1, 0, 0, 20), L + 1);
        due("x below", x.belief(0, -1, 100, 0, 0), L + 4);
        due("y below", x.belief(0, 0, -1, 0, 0), L + 4);
        due("a below", x.belief(0, 100, 0, -1, 0), L + 4);
        due("right below", x.belief(0, 100, 0, 0, -10), L + 4);
        due("x above", x.belief(0, 100, 0, 0, 0), L + 6);
        due("y above", x.belief(0, 0, 100, 0, 0), L + 6);
        due("a above", x.belief(0, 0, 0, 11, 0), L + 6);
        due("right above, before both 0", x.belief(0, 0, 0, 5, 30), L + 6);
        due("both 0", x.belief(0, 0, 0, 5, 10), L + 3);
        due("no such cases", x.belief(0, 0, 1, 10, 10), L + 3);
    }

    private static void letter() {
        MilkFirst x = new MilkFirst();
        due("no rule", x.letter(0, 0, 0), L + 1);
        Checks.rule(x, "r=s");
        Checks.rule(x, "r=1&s=2");
        Checks.rule(x, "r=7");
        due("no plan", x.letter(0, 0, 0), L + 1);
        x.plan(0, 1, 0);
        x.plan(2, 2, 0);
        x.plan(1, 2, 1);
        fraction("a half of two halves and a quarter", x.letter(0, 0, 0), x.letter(0, 0, 1), 2, 5);
        fraction("the quarter", x.letter(0, 1, 0), x.letter(0, 1, 1), 1, 5);
        fraction("just the one", x.letter(1, 1, 0), x.letter(1, 1, 1), 1, 1);
        fraction("not this one", x.letter(1, 2, 0), x.letter(1, 2, 1), 0, 1);
        due("none of any", x.letter(2, 0, 0), L + 3);
        x.plan(1, 8, 4);
        due("seven of eight never come", x.letter(2, 0, 0), L + 3);
        due("part", x.letter(9, 9, 2), L + 2);
        due("plan below", x.letter(0, -1, 0), L + 1);
        due("plan above, before none of any", x.letter(2, 4, 0), L + 1);
        due("rule below", x.letter(-1, 0, 0), L + 1);
    }

    /** Plans 0: FIXED 5 2; 1: LOOSE 5; 2: BLOCKED 1 2. */
    private static MilkFirst withLots() {
        MilkFirst x = new MilkFirst();
        x.plan(1, 5, 2);
        x.plan(0, 5, 0);
        x.plan(4, 1, 2);
        return x;
    }

    private static void lots() {
        MilkFirst x = withLots();
        due("lots", x.lots(0), 10);
        x.plan(1, 12, 6);
        due("most lots", x.lots(3), 924);
        due("loose", x.lots(1), -3);
        due("blocked", x.lots(2), -3);
        due("none", x.lots(4), -1);
        due("below", x.lots(-1), -1);
    }

    private static void lot() {
        MilkFirst x = withLots();
        int[] sets = {3, 5, 6, 9, 10, 12, 17, 18, 20, 24};
        for (int i = 0; i < sets.length; i++) {
            due("lot " + i, x.lot(0, i), sets[i]);
        }
        due("beyond", x.lot(0, 10), -1);
        due("below", x.lot(0, -1), -1);
        due("loose", x.lot(1, 0), -3);
        due("blocked", x.lot(2, 0), -3);
        due("no plan", x.lot(3, 0), -1);
    }

    private static void rank() {
        MilkFirst x = withLots();
        due("first", x.rank(0, 3), 0);
        due("middle", x.rank(0, 12), 5);
        due("last", x.rank(0, 24), 9);
        due("too few", x.rank(0, 4), -1);
        due("too many", x.rank(0, 7), -1);
        due("beyond n", x.rank(0, 33), -1);
        due("below", x.rank(0, -1), -1);
        due("two bits, but below", x.rank(0, Integer.MIN_VALUE + 1), -1);
        due("loose", x.rank(1, 3), -3);
        due("no plan", x.rank(3, 3), -1);
    }

    private static void lean() {
        MilkFirst x = withLots();
        due("first", x.lean(0, 3), -15);
        due("even", x.lean(0, 17), 0);
        due("last", x.lean(0, 24), 15);
        due("no lot", x.lean(0, 1), 1000000001);
        due("beyond n", x.lean(0, 33), 1000000001);
        due("loose", x.lean(1, 3), 1000000003);
        due("blocked", x.lean(2, 3), 1000000003);
        due("no plan", x.lean(3, 3), 1000000001);
        due("counted", x.count(11) * 10 + x.count(13), 32);
    }

    private static void even() {
        MilkFirst x = withLots();
        due("of five", x.even(0), 2);
        x.plan(1, 4, 1);
        due("of four, one can't", x.even(3), 0);
        due("loose", x.even(1), -3);
        due("no plan", x.even(4), -1);
    }

    private static void bestLot() {
        MilkFirst x = withLots();
        due("cups 1 and 3", x.bestLot(0), 10);
        x.plan(1, 4, 1);
        due("of cups 1 and 2 the first", x.bestLot(3), 2);
        due("blocked", x.bestLot(2), -3);
        due("no plan", x.bestLot(4), -1);
    }

    private static void marked() {
        MilkFirst x = withLots();
        due("the same", x.marked(0, 3, 3), 5);
        due("the other way", x.marked(0, 3, 28), 0);
        due("none marked", x.marked(0, 3, 0), 3);
        due("marks beyond n", x.marked(0, 3, 4064), 3);
        due("all marked", x.marked(0, 3, 4095), 2);
        due("no lot, before the mark", x.marked(0, 4, -1), -1);
        due("loose, before the mark", x.marked(1, 3, -1), -3);
        due("no plan", x.marked(3, 3, -1), -1);
        due("below", x.marked(0, 3, -1), -4);
        due("above", x.marked(0, 3, 4096), -6);
    }

    private static void free() {
        MilkFirst x = withLots();
        due("all agree", x.free(0, 3, 5), 1);
        due("three agree", x.free(0, 3, 3), 6);
        due("one agrees", x.free(0, 3, 1), 3);
        due("two never", x.free(0, 3, 2), 0);
        due("marks beyond n", x.free(0, 4064 + 3, 3), 6);
        due("no mark", x.free(0, 0, 3), 10);
        due("all marked", x.free(0, 4095, 2), 10);
        due("loose, before the mark", x.free(1, -1, 3), -3);
        due("no plan", x.free(3, -1, 3), -1);
        due("mark below", x.free(0, -1, 6), -4);
        due("r below", x.free(0, 4096, -1), -4);
        due("mark above", x.free(0, 4096, 0), -6);
        due("r above", x.free(0, 0, 6), -6);
    }

    private static void sit() {
        MilkFirst x = fivePlans();
        due("no plan", x.sit(5, -1, true), -1);
        due("below", x.sit(0, -1, true), -4);
        due("above", x.sit(2, 5, true), -6);
        for (int i = 0; i < 30; i++) {
            due("sitting " + i, x.sit(i % 5, i % 4, i % 2 == 0), i);
        }
        due("31st", x.sit(0, 0, true), -6);
        due("31st, below", x.sit(0, -1, true), -4);
        due("sittings", x.count(2), 30);
        due("told", x.count(3), 15);
        due("seven of fixed never come, but fit", fivePlans().sit(1, 7, true), 0);
    }

    private static void show() {
        MilkFirst x = fivePlans();
        x.sit(0, 5, false);
        x.sit(0, 6, true);
        due("before", x.drawer(0, 2), 6);
        due("show", x.show(0), 1);
        due("after", x.drawer(0, 2), 11);
        due("again", x.show(0), -3);
        due("told at once", x.show(1), -3);
        due("none", x.show(2), -1);
        due("below", x.show(-1), -1);
        due("told", x.count(3), 2);
    }

    private static void drawer() {
        MilkFirst x = fivePlans();
        x.sit(0, 5, true);
        x.sit(4, 8, true);
        x.sit(0, 3, false);
        x.sit(0, 7, false);
        int[] due = {3, 1, 5, 5, 21};
        for (int what = 0; what < 5; what++) {
            due("drawer " + what, x.drawer(0, what), due[what]);
            due("drawer of none " + what, x.drawer(3, what), 0);
        }
        due("of blocks", x.drawer(4, 4), 8);
        due("what", x.drawer(0, 5), -2);
        due("what below", x.drawer(0, -1), -2);
        due("plan before what", x.drawer(5, 5), -1);
    }

    private static void turned() {
        MilkFirst x = fivePlans();
        due("none sat, before p", x.turned(0, -1), -3);
        x.sit(0, 8, true);
        x.sit(0, 0, false);
        x.sit(0, 0, false);
        x.sit(0, 8, false);
        x.sit(1, 0, true);
        due("three of four", x.turned(0, 750), 1);
        due("less", x.turned(0, 749), 2);
        due("one of four", x.turned(0, 250), 3);
        due("never", x.turned(0, 249), -9);
        due("all", x.turned(0, 1000), 0);
        due("nearly all", x.turned(0, 999), 1);
        due("of another plan", x.turned(1, 0), 0);
        due("no plan", x.turned(5, -1), -1);
        due("below", x.turned(0, -1), -4);
        due("above", x.turned(0, 1001), -6);
        due("can't is no refusal", x.count(11) + x.count(13) + x.count(14) + x.count(16), 4);
    }

    private static void count() {
        MilkFirst x = fivePlans();
        Checks.rule(x, "r=1");
        Checks.feed(x, "abcde");
        x.sit(0, 1, true);
        x.sit(1, 1, false);
        int[] due = {5, 1, 2, 1, 5};
        for (int what = 0; what < 5; what++) {
            due("count " + what, x.count(what), due[what]);
        }
        x.size(9);
        x.size(9);
        x.plan(9, 0, 0);
        x.lots(0);
        x.lots(0);
        x.lots(0);
        x.feed(0, 0);
        x.feed(9, 0);
        x.feed(9, 0);
        x.lean(0, 0);
        x.odds(9, 0, 0, 0);
        int[] refusals = {3, 1, 4, 1, 0, 2};
        for (int what = 11; what <= 16; what++) {
            due("count " + what, x.count(what), refusals[what - 11]);
        }
        int[] others = {-1, 5, 10, 17, 100, Integer.MIN_VALUE, Integer.MAX_VALUE, Integer.MIN_VALUE + 11};
        for (int what : others) {
            due("count " + what, x.count(what), -9);
        }
        due("another what is no refusal", x.count(12), 1);
    }
}
