import static java.lang.Integer.MAX_VALUE;
import static java.lang.Integer.MIN_VALUE;

/** Part II of the Terms and promises 7 to 12: RULES, LINE and FEWEST. */
final class RulesBounds {
    private static final long L = Bounds.LONG_REFUSAL;
    private static final int[] PLANS = Mixes.around(0, 4);
    private static final int[] RULES = Mixes.around(0, 1);
    private static final int[] ABLE = Mixes.around(0, 10);
    private static final int[] PARTS = Mixes.around(0, 1);
    private static final int[] THOUSANDTHS = Mixes.around(0, 1000);
    /** A one at the 61st bit: times 8 it goes round. */
    private static final String SIXTY_BITS = "64*64*64*64*64*64*64*64*64*64*";

    private final Bounds b;
    private final Mixes some;

    RulesBounds(Bounds bounds) {
        b = bounds;
        some = new Mixes(bounds, Given::some);
    }

    void run() {
        terms();
        feed();
        rule();
        believes();
        believed();
        line();
        fewest();
    }

    private void terms() {
        b.part("==== II.", "==== III.");
        ruleNumbers();
        bytesAtMost();
        ors();
        ands();
        tests();
        sums();
        units();
        deep();
        faults();
        ends();
        lines();
        fewests();
        b.allQuoted();
    }

    private void taken(String text) {
        b.due("rule " + text, Checks.rule(new MilkFirst(), text), 0);
    }

    private void fault(String text, int at) {
        b.due("rule " + text, Checks.rule(new MilkFirst(), text), -20 - at);
    }

    /** Whether the RULE holds of LOOSE 7, 4 RIGHT. */
    private void holds(String text, boolean due) {
        MilkFirst x = Given.rules(text);
        x.plan(Given.LOOSE, 7, 0);
        b.due(text + " of 4 of 7", x.believes(0, 0, 4), due ? 1 : 0);
    }

    private void ruleNumbers() {
        b.sentence("RULES have numbers from 0 on (20 at most):");
        MilkFirst x = Given.plan(Given.LOOSE, 12, 0);
        for (int i = 0; i < 20; i++) {
            b.due("a FAULT before " + i, Checks.rule(x, "r="), -22);
            b.due("rule " + i, Checks.rule(x, "r=" + i % 13), i);
        }
        b.due("one more", Checks.rule(x, "r=1"), -6);
        b.due("count", x.count(1), 20);
        for (int i = 0; i < 20; i++) {
            for (int right = 0; right <= 12; right++) {
                b.due("rule " + i + " of " + right, x.believes(i, 0, right), right == i % 13 ? 1 : 0);
            }
        }
        b.due("one more isn't", x.believes(20, 0, 0), -1);
    }

    private void bytesAtMost() {
        b.sentence("a TEXT (40 bytes at most):");
        String forty = "r" + "+0".repeat(18) + "=04";
        MilkFirst x = Given.plan(Given.LOOSE, 4, 0);
        b.due("forty", Checks.rule(x, forty), 0);
        b.due("all forty are read", x.believes(0, 0, 4), 1);
        b.due("all forty are read", x.believes(0, 0, 3), 0);
        // Each of these bytes is a sign of its own, the first is the last that is worked out.
        holds("!" + "r=4&".repeat(9) + "r=4", false);
        holds("!r=5&" + "r=4&".repeat(8) + "r=4", true);
        Checks.feed(x, forty);
        b.due("forty and one", x.feed(1, '1'), -6);
        b.due("forty stay", x.count(4), 40);
    }

    private void ors() {
        b.sentence("OR: AND { \"|\" AND };");
        holds("r=4", true);
        holds("r=3|r=4", true);
        holds("r=3|r=5", false);
        holds("r=4|r=4", true);
        holds("r=0|r=1|r=2|r=3|r=4", true);
        holds("r=0|r=1|r=2|r=3|r=5", false);
        holds("r=4|r=3&r=5", true);
        holds("r=3&r=5|r=4", true);
        fault("|r=4", 0);
        fault("r=4|", 4);
        fault("r=4||r=4", 4);
    }

    private void ands() {
        b.sentence("AND: TEST { \"&\" TEST };");
        holds("r=4&s=7", true);
        holds("r=4&s=6", false);
        holds("r=3&s=7", false);
        holds("r=4&r<5&r>3&s=7&k=0", true);
        holds("r=4&r<5&r>3&s=7&k=1", false);
        fault("&r=4", 0);
        fault("r=4&", 4);
        fault("r=4&&r=4", 4);
        fault("r=4&|r=4", 4);
    }

    private void tests() {
        b.sentence("TEST: \"!\" TEST, \"(\" OR \")\", SUM, one of \"<\", \"=\", \">\", SUM;");
        holds("r<5", true);
        holds("r<4", false);
        holds("r=4", true);
        holds("r=5", false);
        holds("r>3", true);
        holds("r>4", false);
        holds("!r=4", false);
        holds("!r=5", true);
        holds("!!r=4", true);
        holds("!r=5&r=4", true);
        holds("!r=4|r=4", true);
        holds("!r<4", true);
        holds("!r<5", false);
        holds("!r>4", true);
        holds("!r>3", false);
        holds("r=4&r<4", false);
        holds("r=4&r>4", false);
        holds("r<4|r=4", true);
        holds("r>4|r=4", true);
        holds("!(r=5|r=4)", false);
        holds("(r=5|r=4)&s=7", true);
        holds("r=4|(r=4&s=6)", true);
        fault("!", 1);
        fault("(", 1);
        fault("()", 1);
        fault("(r=4", 4);
        fault("r=4)", 3);
        fault("(r)", 2);
        fault("!r", 2);
        fault("r!4", 1);
        fault("r=4=4", 3);
        fault("r<=4", 2);
        fault("(r)=4", 2);
        fault("(r=4)=4", 5);
    }

    private void sums() {
        b.sentence("SUM: UNIT { \"+\" UNIT, \"-\" UNIT, \"*\" UNIT } (from the left on; 64 bits, going round);");
        holds("r+1*2=10", true);
        holds("r+1*2=6", false);
        holds("r-1-1=2", true);
        holds("2-r<0", true);
        holds("0=0-r+4", true);
        holds(SIXTY_BITS + "4>0", true);
        holds(SIXTY_BITS + "8<0", true);
        holds(SIXTY_BITS + "8-1>0", true);
        holds(SIXTY_BITS + "8-1-1>0", true);
        holds(SIXTY_BITS + "16=0", true);
        holds(SIXTY_BITS + "16+1=1", true);
        holds("0-1<" + SIXTY_BITS + "4", true);
        fault("+r=4", 0);
        fault("-r=4", 0);
        fault("r=-4", 2);
        fault("r+=4", 2);
        fault("r=4+", 4);
        fault("r=4*-1", 4);
    }

    private void units() {
        b.sentence("UNIT: a number of 1 or 2 digits, or a letter: r RIGHT, w SIZE less RIGHT, s SIZE, n N, k K, p KIND.");
        holds("0<1", true);
        holds("99=99", true);
        holds("04=r", true);
        holds("00=0", true);
        holds("r=9-5", true);
        holds("9<10", true);
        fault("r=100", 4);
        fault("100=r", 2);
        fault("r=004", 4);
        fault("rr=4", 1);
        fault("r4=4", 1);
        fault("4r=4", 1);
        for (String other : new String[] {"a", "R", "q", "x", " ", "/", ":", "\0", "\177", "\362"}) {
            fault(other + "=4", 0);
            fault("r=" + other, 2);
        }
        MilkFirst x = Given.rules("r=3", "w=9", "s=12", "n=3", "k=2", "p=4");
        x.plan(Given.BLOCKED, 3, 2);
        x.plan(Given.LOOSE, 1, 9);
        x.plan(Given.FIXED, 12, 11);
        int[][] due = {{1, 1, 1, 1, 1, 1}, {0, 0, 0, 0, 0, 0}, {0, 0, 1, 0, 0, 0}};
        for (int rule = 0; rule < 6; rule++) {
            b.due("rule " + rule + " of three blocks", x.believes(rule, 0, 3), due[0][rule]);
            b.due("rule " + rule + " of one cup", x.believes(rule, 1, 1), due[1][rule]);
            b.due("rule " + rule + " of twelve cups", x.believes(rule, 2, 12), due[2][rule]);
        }
    }

    private void deep() {
        b.sentence("\"!\" and \"(\" are 4 deep at most, together.");
        for (String text : new String[] {"!!!!r=4", "((((r=4))))", "!(!(r=4))", "(!(!r=4))", "!!((r=4))", "((!!r=4))", "!((!r=4))"}) {
            holds(text, true);
        }
        fault("!!!!!r=4", 4);
        fault("(((((r=4)))))", 4);
        fault("!(!((r=4)))", 4);
        fault("((((!r=4))))", 4);
        fault("!!!!(r=4)", 4);
        fault("!!!!!", 4);
        fault("(((((", 4);
        // What is ended is deep no more.
        taken("((((r=4))))&((((r=4))))|!!!!r=4");
        taken("(((!r=4)&!r=4)&!!r=4)&!!!r=4");
        taken("!!!!r=4|((((r=4))))");
        fault("!!!(r=4)&(((!(r=4))))", 13);
        fault("r=4&(((r=4)|((r=4))))&(((r=4|(!r=4))))", 30);
    }

    private void faults() {
        b.sentence("FAULT: the place of the first byte that can not stand (the end, if something lacks; of a fifth its own).");
        fault("", 0);
        fault("x", 0);
        fault("r", 1);
        fault("rx", 1);
        fault("r=", 2);
        fault("r=x", 2);
        fault("r=4x", 3);
        fault("r=4xx=", 3);
        fault("r=4\0", 3);
        fault("\0", 0);
        fault("r=4\377", 3);
        taken("r=44");
        fault("r=444", 4);
        fault("r=4&", 4);
        fault("r=4&(", 5);
        fault("(r=4|r=4", 8);
        fault("r=4&".repeat(10), 40);
        fault("r=4&".repeat(9) + "r=4|", 40);
        fault("r=4&".repeat(9) + "r=4x", 39);
        fault("x" + "r=4&".repeat(9) + "r=4", 0);
        fault("((((r=4))))&(((((r=4", 16);
        fault("((((r=4))))&!!!!!!!!", 16);
    }

    private void ends() {
        b.sentence("A RULE BELIEVES an END of a PLAN, if it holds.");
        MilkFirst x = Given.rules("r>w");
        x.plan(Given.LOOSE, 3, 0);
        x.plan(Given.FIXED, 4, 2);
        int[] due = {0, 0, 1, 1};
        for (int right = 0; right <= 3; right++) {
            b.due("END " + right, x.believes(0, 0, right), due[right]);
        }
        b.due("as many right as not", x.believes(0, 1, 2), 0);
        b.due("one more than half", x.believes(0, 1, 3), 1);
    }

    private void lines() {
        b.sentence("LINE of a PLAN for p (0 .. 1000 thousandths): the least RIGHT such that a NOBODY has that many or more"
            + " in no more than p thousandths of all cases; SIZE and 1, if none.");
        // Three of 3: 1 of 8. Two or more: 1 of 2. One or more: 7 of 8.
        int[][] due = {{0, 4}, {1, 4}, {124, 4}, {125, 3}, {126, 3}, {499, 3}, {500, 2}, {501, 2}, {874, 2}, {875, 1}, {876, 1},
            {999, 1}, {1000, 0}};
        MilkFirst x = Given.plan(Given.LOOSE, 3, 0);
        for (int[] one : due) {
            b.due("line for " + one[0], x.line(0, one[0]), one[1]);
        }
        MilkFirst twelve = Given.plan(Given.LOOSE, 12, 0);
        b.due("1 of 4096 is less than a thousandth", twelve.line(0, 1), 12);
        b.due("but more than none", twelve.line(0, 0), 13);
        // Of one of 5 three or five are right: 1 of 5 has all, and so four or more; all have three or more.
        MilkFirst five = Given.plan(Given.FIXED, 5, 1);
        b.due("the least, though just so many never are", five.line(0, 200), 4);
        b.due("none", five.line(0, 199), 6);
        b.due("nearly all", five.line(0, 999), 4);
        b.due("all", five.line(0, 1000), 0);
    }

    private void fewests() {
        b.sentence("FEWEST for a KIND (0 .. 3), p, a and q: the least N such that some PLAN of it (of FIXED: of the K's the one nearest"
            + " to half of N, the lesser of two) with LINE for p is reached by one ABLE by a in q thousandths of all cases or more"
            + " (a LINE of SIZE and 1 in none); -9 none.");
        MilkFirst x = new MilkFirst();
        // For p, one surely right (10, 1000) needs N cups, pairs, threes: KIND, p, N.
        int[][] sure = {{0, 500, 1}, {0, 499, 2}, {0, 250, 2}, {0, 249, 3}, {0, 125, 3}, {0, 124, 4}, {0, 1, 10}, {0, 0, -9},
            {1, 500, 2}, {1, 499, 3}, {1, 334, 3}, {1, 333, 4}, {1, 167, 4}, {1, 166, 5}, {1, 100, 5}, {1, 99, 6}, {1, 50, 6}, {1, 49, 7},
            {1, 29, 7}, {1, 28, 8}, {1, 15, 8}, {1, 14, 9}, {1, 8, 9}, {1, 7, 10}, {1, 4, 10}, {1, 3, 11}, {1, 2, 12}, {1, 1, -9},
                {1, 0, -9},
            {2, 500, 1}, {2, 16, 6}, {2, 15, -9}, {3, 334, 1}, {3, 333, 2}, {3, 13, 4}, {3, 12, -9}};
        for (int[] one : sure) {
            b.due("fewest(" + one[0] + ", " + one[1] + ", 10, 1000)", x.fewest(one[0], one[1], 10, 1000), one[2]);
        }
        b.due("q just reached", x.fewest(0, 500, 9, 900), 1);
        b.due("q just not; then of 3 the LINE is 2", x.fewest(0, 500, 9, 901), 3);
        b.due("no LINE, but nothing is asked: the least N", x.fewest(0, 0, 10, 0), 1);
        b.due("no LINE, but nothing is asked, FIXED", x.fewest(1, 0, 10, 0), 2);
        b.due("no LINE is reached in one thousandth", x.fewest(0, 0, 10, 1), -9);
        b.due("everything is let through", x.fewest(3, 1000, 0, 1000), 1);
        b.due("no PLAN is made", x.count(0), 0);
        b.due("none is no REFUSAL", x.count(11) + x.count(12) + x.count(13) + x.count(14) + x.count(15) + x.count(16), 0);
    }

    private void feed() {
        b.promise(7);
        b.plainly("feed `int feed(int n, long bytes)`:");
        b.sentence("n (1 .. 8) bytes come, the lowest first: how many THE TAPE has.");
        MilkFirst x = Given.plan(Given.LOOSE, 9, 0);
        b.due("one, whatever lies above", x.feed(1, -256L | 'r'), 1);
        b.due("two, the lowest first", x.feed(2, 0x1234567800000000L | '9' << 8 | '='), 3);
        b.due("they are a RULE", x.rule(), 0);
        b.due("r=9 holds of 9", x.believes(0, 0, 9), 1);
        b.due("r=9 doesn't of 8", x.believes(0, 0, 8), 0);
        b.due("eight", x.feed(8, Checks.packed("r=9|r=8|")), 8);
        b.due("three more", x.feed(3, Checks.packed("r=7")), 11);
        b.due("they are a RULE", x.rule(), 1);
        b.due("it holds of 8", x.believes(1, 0, 8), 1);
        b.due("it holds of 7", x.believes(1, 0, 7), 1);
        b.due("eight of the highest", x.feed(8, -1L), 8);
        b.due("they are no 0 and no sign", x.rule(), -20);
        b.sentence("-4; -6 (n; above 40).");
        int[][] values = {Mixes.some(MIN_VALUE, -1, 0, 1, 7, 8, 9, 38, 39, MAX_VALUE), Mixes.some(MIN_VALUE, 0, '1', MAX_VALUE)};
        some.refused("feed", 0, (y, v) -> y.feed(v[0], v[1]), values, Mixes.no(-4, v -> v[0] < 1), Mixes.no(-6, v -> v[0] > 8));
        new Mixes(b, Given::full).refused("feed, of 40", 0, (y, v) -> y.feed(v[0], v[1]), values, Mixes.no(-4, v -> v[0] < 1),
            Mixes.no(-6, v -> true));
        MilkFirst y = new MilkFirst();
        for (int i = 1; i <= 4; i++) {
            b.due("eight, " + i, y.feed(8, 0), 8 * i);
        }
        b.due("one", y.feed(1, 0), 33);
        b.due("eight would be 41", y.feed(8, 0), -6);
        b.due("nothing came", y.count(4), 33);
        b.due("seven are 40", y.feed(7, 0), 40);
        b.due("one would be 41", y.feed(1, 0), -6);
        b.due("none is too few, though there is no room", y.feed(0, 0), -4);
        b.allQuoted();
    }

    private void rule() {
        b.promise(8);
        b.plainly("rule `int rule()`:");
        b.sentence("THE TAPE becomes a RULE, and has none: its number;");
        MilkFirst x = Given.plan(Given.LOOSE, 9, 0);
        b.due("the first", Checks.rule(x, "r=9"), 0);
        b.due("THE TAPE has none", x.count(4), 0);
        b.due("the second", Checks.rule(x, "r=8"), 1);
        b.due("of its own text", x.believes(1, 0, 8), 1);
        b.due("of its own text alone", x.believes(1, 0, 9), 0);
        b.sentence("or, if it has a FAULT, -20 less its place (nothing is counted; THE TAPE has none, too).");
        b.due("THE TAPE is empty", x.rule(), -20);
        b.due("at the start", Checks.rule(x, "x=9"), -20);
        b.due("at the end", Checks.rule(x, "r=9&".repeat(10)), -60);
        b.due("THE TAPE has none, too", x.count(4), 0);
        b.due("no RULE came", x.count(1), 2);
        for (int what = 11; what <= 16; what++) {
            b.due("nothing is counted, " + what, x.count(what), 0);
        }
        b.due("the next number is the next", Checks.rule(x, "r=7"), 2);
        b.sentence("-6 20.");
        new Mixes(b, Given::full).refused("rule", 0, (y, v) -> y.rule(), new int[][] {{0}}, Mixes.no(-6, v -> true));
        MilkFirst y = Given.full();
        b.due("20", y.count(1), 20);
        b.due("-6", y.rule(), -6);
        b.sentence("(Refused: THE TAPE stays.)");
        b.due("THE TAPE stays", y.count(4), 40);
        b.due("it stays again", y.rule(), -6);
        b.due("it is full still", y.feed(1, '1'), -6);
        MilkFirst z = new MilkFirst();
        for (int i = 0; i < 20; i++) {
            Checks.rule(z, "r=" + i);
        }
        b.due("with none on it", z.rule(), -6);
        Checks.feed(z, "x");
        b.due("with what would be a FAULT on it", z.rule(), -6);
        b.due("it stays", z.count(4), 1);
        b.allQuoted();
    }

    private void believes() {
        b.promise(9);
        b.plainly("believes `int believes(int rule, int plan, int right)`:");
        b.sentence("Whether it BELIEVES an END: 1, 0.");
        MilkFirst x = Given.some();
        for (int plan = 0; plan < 5; plan++) {
            for (int right = 0; right <= Given.size(plan); right++) {
                b.due("all of " + plan + ", " + right, x.believes(0, plan, right), right == Given.size(plan) ? 1 : 0);
                b.due("fewer than none of " + plan + ", " + right, x.believes(1, plan, right), 0);
            }
        }
        b.sentence("-1; -4; -6.");
        int[] rights = Mixes.some(MIN_VALUE, -1, 0, 1, 2, 3, 4, 5, 6, MAX_VALUE);
        some.refused("believes", 0, (y, v) -> y.believes(v[0], v[1], v[2]), new int[][] {RULES, PLANS, rights},
            Mixes.no(-1, v -> Given.noRule(v[0]) || Given.noPlan(v[1])), Mixes.no(-4, v -> v[2] < 0),
                Mixes.no(-6, v -> v[2] > Given.size(v[1])));
        b.allQuoted();
    }

    private void believed() {
        b.promise(10);
        b.plainly("believed `long believed(int rule, int plan, int a, int part)`:");
        b.sentence("How often it BELIEVES.");
        MilkFirst x = Given.rules("r<0", "r<99", "r=0|r=s");
        x.plan(Given.LOOSE, 12, 0);
        for (int a = 0; a <= 10; a++) {
            int able = a;
            b.fraction("never", part -> x.believed(0, 0, able, part), 0, 1);
            b.fraction("always", part -> x.believed(1, 0, able, part), 1, 1);
        }
        b.fraction("the least END and the greatest", part -> x.believed(2, 0, 5, part), 1, 2048);
        b.sentence("-2; -1; -4; -6.");
        some.refused("believed", L, (y, v) -> y.believed(v[0], v[1], v[2], v[3]), new int[][] {RULES, PLANS, ABLE, PARTS},
            Mixes.no(-2, v -> Given.noPart(v[3])), Mixes.no(-1, v -> Given.noRule(v[0]) || Given.noPlan(v[1])),
            Mixes.no(-4, v -> v[2] < 0), Mixes.no(-6, v -> v[2] > 10));
        b.allQuoted();
    }

    private void line() {
        b.promise(11);
        b.plainly("line `int line(int plan, int p)`:");
        b.sentence("LINE.");
        MilkFirst x = Given.some();
        for (int plan = 0; plan < 5; plan++) {
            b.due("for all, of " + plan, x.line(plan, 1000), 0);
            b.due("for none, of " + plan, x.line(plan, 0), Given.size(plan) + 1);
        }
        b.sentence("-1; -4; -6.");
        some.refused("line", 0, (y, v) -> y.line(v[0], v[1]), new int[][] {PLANS, THOUSANDTHS}, Mixes.no(-1, v -> Given.noPlan(v[0])),
            Mixes.no(-4, v -> v[1] < 0), Mixes.no(-6, v -> v[1] > 1000));
        b.allQuoted();
    }

    private void fewest() {
        b.promise(12);
        b.plainly("fewest `int fewest(int kind, int p, int a, int q)`:");
        b.sentence("FEWEST; -9.");
        MilkFirst x = new MilkFirst();
        b.due("the least N there is", x.fewest(Given.LOOSE, 1000, 0, 1000), 1);
        b.due("the greatest N there is", x.fewest(Given.FIXED, 2, 10, 1000), 12);
        b.due("none", x.fewest(Given.FIXED, 1, 10, 1000), -9);
        b.sentence("-2; -4; -6.");
        some.refused("fewest", 0, (y, v) -> y.fewest(v[0], v[1], v[2], v[3]), new int[][] {Mixes.around(0, 3), THOUSANDTHS, ABLE,
            THOUSANDTHS},
            Mixes.no(-2, v -> v[0] < 0 || v[0] > 3), Mixes.no(-4, v -> v[1] < 0 || v[2] < 0 || v[3] < 0),
            Mixes.no(-6, v -> v[1] > 1000 || v[2] > 10 || v[3] > 1000));
        b.allQuoted();
    }
}
