import static java.lang.Integer.MAX_VALUE;
import static java.lang.Integer.MIN_VALUE;

/** Of part IV of the Terms the DRAWER and REFUSALS, and promises 27 to 31. */
final class DrawerBounds {
    private static final long L = Bounds.LONG_REFUSAL;
    private static final int[] PLANS = Mixes.some(MIN_VALUE, -1, 0, 1, 2, 3, 4, 5, MAX_VALUE);
    private static final int[] THOUSANDTHS = Mixes.around(0, 1000);

    private final Bounds b;
    private final Mixes some;

    DrawerBounds(Bounds bounds) {
        b = bounds;
        some = new Mixes(bounds, Given::some);
    }

    /** Behind the Terms' part IV is begun. */
    void terms() {
        sittings();
        toldOf();
        leastAndMost();
        turnedOf();
        firstThatFits();
        nobody();
        other();
        state();
        below();
        room();
        longs();
        leans();
    }

    void run() {
        sit();
        show();
        drawer();
        turned();
        count();
    }

    private void sittings() {
        b.sentence("THE DRAWER: SITTINGS of PLANS (30 at most): RIGHT, told or not (not told: nobody knows).");
        MilkFirst x = Given.some();
        for (int i = 4; i < 30; i++) {
            b.due("sitting " + i, x.sit(i % 5, i % 3, i % 2 == 0), i);
        }
        b.due("one more", x.sit(0, 0, true), -6);
        b.due("one more, not told", x.sit(0, 0, false), -6);
        b.due("count", x.count(2), 30);
        b.due("the last is there", x.show(29), 1);
        b.due("one more isn't", x.show(30), -1);
        MilkFirst y = Given.plan(Given.LOOSE, 9, 0);
        y.sit(0, 9, false);
        b.due("not told, nobody knows", y.drawer(0, 2), 0);
        b.due("not told, nobody knows at least", y.drawer(0, 3), 0);
        y.sit(0, 0, true);
        b.due("told, none right", y.drawer(0, 4), 9);
    }

    private void toldOf() {
        b.sentence("TOLD of a PLAN: how many, RIGHT together;");
        MilkFirst x = Given.some();
        int[] told = {1, 1, 0, 0, 0};
        int[] right = {2, 5, 0, 0, 0};
        for (int plan = 0; plan < 5; plan++) {
            b.due("how many of " + plan, x.drawer(plan, 1), told[plan]);
            b.due("RIGHT of " + plan, x.drawer(plan, 2), right[plan]);
        }
        MilkFirst y = Given.plan(Given.LOOSE, 12, 0);
        for (int i = 0; i < 30; i++) {
            y.sit(0, 12, true);
        }
        b.due("all of the most", y.drawer(0, 1), 30);
        b.due("RIGHT of the most", y.drawer(0, 2), 360);
    }

    private void leastAndMost() {
        b.sentence("LEAST, MOST that all together could have (SIZE each).");
        MilkFirst x = Given.some();
        int[] least = {2, 5, 0, 0, 0};
        int[] most = {2, 10, 0, 0, 4};
        for (int plan = 0; plan < 5; plan++) {
            b.due("LEAST of " + plan, x.drawer(plan, 3), least[plan]);
            b.due("MOST of " + plan, x.drawer(plan, 4), most[plan]);
        }
        MilkFirst y = Given.plan(Given.BLOCKED, 3, 1);
        for (int i = 0; i < 30; i++) {
            y.sit(0, 0, false);
        }
        b.due("LEAST of none told", y.drawer(0, 3), 0);
        b.due("MOST of none told", y.drawer(0, 4), 360);
    }

    private void turnedOf() {
        b.sentence("TURNED: how few of those not told would have to be 0 RIGHT so that of all of that PLAN the mean is no more than"
            + " p thousandths of SIZE, if the others were SIZE; -9 they can't.");
        MilkFirst x = Given.plan(Given.LOOSE, 12, 0);
        x.plan(Given.ODD, 2, 0);
        x.sit(0, 3, true);
        x.sit(0, 12, false);
        x.sit(0, 0, false);
        x.sit(0, 5, false);
        // Of 48: 39 with none turned, 27 with one, 15 with two, 3 with all three.
        int[][] due = {{1000, 0}, {813, 0}, {812, 1}, {563, 1}, {562, 2}, {313, 2}, {312, 3}, {63, 3}, {62, -9}, {0, -9}};
        for (int[] one : due) {
            b.due("for " + one[0], x.turned(0, one[0]), one[1]);
        }
        x.sit(0, 0, true);
        x.sit(1, 2, true);
        // Of 60 now: 39, 27, 15, 3, and that is just 50 thousandths.
        b.due("just p", x.turned(0, 50), 3);
        b.due("just more than p", x.turned(0, 49), -9);
        b.due("just p with one", x.turned(0, 450), 1);
        b.due("all may, and it were still less with one more", x.turned(0, 1000), 0);
        b.due("just more with one", x.turned(0, 449), 2);
        b.due("of all told all right", x.turned(1, 999), -9);
        b.due("of all told all may", x.turned(1, 1000), 0);
        b.due("they can't is no REFUSAL", refusals(x), 0);
        MilkFirst none = Given.plan(Given.LOOSE, 12, 0);
        for (int i = 0; i < 30; i++) {
            none.sit(0, 12, false);
        }
        b.due("none told, none may", none.turned(0, 0), 30);
        b.due("none told, 1 of 30 may", none.turned(0, 34), 29);
        b.due("none told, all may", none.turned(0, 1000), 0);
    }

    private static long refusals(MilkFirst x) {
        return x.count(11) + x.count(12) + x.count(13) + x.count(14) + x.count(15) + x.count(16);
    }

    private void firstThatFits() {
        b.sentence("REFUSALS (the call answers the number, the first that fits in the order in which it tells them;"
            + " nothing changes but how many there were):");
        MilkFirst x = Given.full();
        b.due("part, plan, a: part", x.odds(-1, -1, -1, 2), L + 2);
        b.due("plan, a: plan", x.odds(-1, -1, 99, 1), L + 1);
        b.due("a below, RIGHT above: below", x.odds(0, -1, 99, 1), L + 4);
        b.due("what, in the drawer, comes behind the plan", x.drawer(-1, 9), -1);
        b.due("KIND before N and room", x.plan(9, 0, 0), -2);
        b.due("N before room", x.plan(0, 0, 0), -4);
        b.due("STATE before what is below", x.gain(0, -1, 0), L + 3);
        b.due("STATE behind what is above", x.belief(0, 0, 0, 11, 0), L + 6);
        b.due("each is counted once", refusals(x), 8);
        int[] due = {2, 2, 1, 2, 0, 1};
        for (int i = 0; i < 6; i++) {
            b.due("count " + (11 + i), x.count(11 + i), due[i]);
        }
        MilkFirst same = Given.full();
        for (int plan = 0; plan < 30; plan++) {
            b.due("size " + plan, x.size(plan), same.size(plan));
            b.due("drawer " + plan, x.drawer(plan, 4), same.drawer(plan, 4));
        }
        for (int what = 0; what <= 4; what++) {
            b.due("count " + what, x.count(what), same.count(what));
        }
    }

    private void nobody() {
        b.sentence("-1 NOBODY: no such PLAN, RULE, SITTING, LOT.");
        MilkFirst x = new MilkFirst();
        b.due("no PLANS at all", x.size(0), -1);
        x.plan(Given.FIXED, 2, 1);
        b.due("no such PLAN", x.size(1), -1);
        b.due("no RULES at all", x.believes(0, 0, 0), -1);
        Checks.rule(x, "r=s");
        b.due("no such RULE", x.believes(1, 0, 0), -1);
        b.due("no SITTINGS at all", x.show(0), -1);
        x.sit(0, 0, false);
        b.due("no such SITTING", x.show(1), -1);
        b.due("no such LOT", x.lot(0, 2), -1);
        b.due("no LOT", x.rank(0, 3), -1);
        b.due("all counted", x.count(11), 8);
        b.due("and no others", refusals(x), 8);
    }

    private void other() {
        b.sentence("-2 OTHER: what, KIND, part.");
        MilkFirst x = Given.some();
        b.due("what", x.drawer(0, 5), -2);
        b.due("what", x.drawer(0, -1), -2);
        b.due("KIND", x.plan(5, 1, 1), -2);
        b.due("KIND", x.plan(-1, 1, 1), -2);
        b.due("KIND of FEWEST", x.fewest(4, 0, 0, 0), -2);
        b.due("part", x.mean(0, 0, 2), L + 2);
        b.due("part", x.mean(0, 0, -1), L + 2);
        b.due("all counted", x.count(12), 7);
        b.due("and no others", refusals(x), 7);
    }

    private void state() {
        b.sentence("-3 STATE: it is not as it must be.");
        MilkFirst x = Given.some();
        b.due("not FIXED", x.lots(0), -3);
        b.due("told already", x.show(0), -3);
        b.due("no SITTINGS", x.turned(2, 0), -3);
        b.due("believes none", x.letter(1, 0, 0), L + 3);
        b.due("weighs nothing", x.belief(0, 0, 0, 0, 0), L + 3);
        b.due("all counted", x.count(13), 5);
        b.due("and no others", refusals(x), 5);
    }

    private void below() {
        b.sentence("-4 BELOW: a number below the least.");
        MilkFirst x = Given.some();
        b.due("N", x.plan(0, 0, 0), -4);
        b.due("n", x.feed(0, 0), -4);
        b.due("p", x.line(0, -1), -4);
        b.due("RIGHT", x.sit(0, -1, true), -4);
        b.due("m", x.many(0, 0, 0, 0), L + 4);
        b.due("the least of all", x.line(0, MIN_VALUE), -4);
        b.due("all counted", x.count(14), 6);
        b.due("and no others", refusals(x), 6);
    }

    private void room() {
        b.sentence("-6 ROOM: a number above the greatest, no room.");
        MilkFirst x = Given.full();
        b.due("p", x.line(0, 1001), -6);
        b.due("the greatest of all", x.line(0, MAX_VALUE), -6);
        b.due("RIGHT", x.believes(0, 0, 4), -6);
        b.due("PLANS", x.plan(0, 1, 0), -6);
        b.due("RULES", x.rule(), -6);
        b.due("bytes", x.feed(1, 0), -6);
        b.due("SITTINGS", x.sit(0, 0, true), -6);
        b.due("all counted", x.count(16), 7);
        b.due("and no others", refusals(x), 7);
    }

    private void longs() {
        b.sentence("Longs that are REFUSALS are 4000000000000000000 less them (-1 as 4000000000000000001);");
        MilkFirst x = Given.full();
        b.due("-1 of odds", x.odds(30, 0, 0, 0), 4000000000000000001L);
        b.due("-2 of least", x.least(0, 0, 0, 2), 4000000000000000002L);
        b.due("-3 of gain", x.gain(0, 0, 0), 4000000000000000003L);
        b.due("-4 of mean", x.mean(0, -1, 0), 4000000000000000004L);
        b.due("-6 of believed", x.believed(0, 0, 11, 0), 4000000000000000006L);
        b.due("-4 of well", x.well(0, 0, 1, 0, 0), 4000000000000000004L);
        b.due("-6 of many", x.many(0, 0, 5, 0), 4000000000000000006L);
        b.due("-3 of belief", x.belief(0, 0, 0, 0, 0), 4000000000000000003L);
        b.due("-1 of letter", x.letter(20, 0, 0), 4000000000000000001L);
    }

    private void leans() {
        b.sentence("of lean() 1000000000 less them (-1 as 1000000001).");
        MilkFirst x = Given.some();
        b.due("no PLAN", x.lean(5, 3), 1000000001);
        b.due("no LOT", x.lean(1, 1), 1000000001);
        b.due("not FIXED", x.lean(0, 3), 1000000003);
        b.due("counted as the others, -1", x.count(11), 2);
        b.due("counted as the others, -3", x.count(13), 1);
    }

    private void sit() {
        b.promise(27);
        b.plainly("sit `int sit(int plan, int right, boolean told)`:");
        b.sentence("A SITTING: its number.");
        MilkFirst x = Given.plan(Given.BLOCKED, 3, 2);
        b.due("the least RIGHT", x.sit(0, 0, true), 0);
        b.due("the greatest RIGHT", x.sit(0, 12, false), 1);
        b.due("an END that can't come", x.sit(0, 11, true), 2);
        b.sentence("-1; -4; -6 (above SIZE, 30).");
        int[] rights = Mixes.some(MIN_VALUE, -1, 0, 1, 2, 3, 4, 5, 6, MAX_VALUE);
        int[][] values = {PLANS, rights, {0, 1}};
        some.refused("sit", 0, (y, v) -> y.sit(v[0], v[1], v[2] == 1), values, Mixes.no(-1, v -> Given.noPlan(v[0])),
            Mixes.no(-4, v -> v[1] < 0),
            Mixes.no(-6, v -> v[1] > Given.size(v[0])));
        values[0] = Mixes.some(MIN_VALUE, -1, 0, 4, 30, MAX_VALUE);
        new Mixes(b, Given::full).refused("sit, of 30", 0, (y, v) -> y.sit(v[0], v[1], v[2] == 1), values,
            Mixes.no(-1, v -> v[0] < 0 || v[0] > 29), Mixes.no(-4, v -> v[1] < 0), Mixes.no(-6, v -> true));
        b.allQuoted();
    }

    private void show() {
        b.promise(28);
        b.plainly("show `int show(int sitting)`:");
        b.sentence("It is told now: 1.");
        MilkFirst x = Given.some();
        b.due("the first not told", x.show(1), 1);
        b.due("it is RIGHT now", x.drawer(1, 2), 8);
        b.due("it is told now", x.count(3), 3);
        b.due("the last", x.show(3), 1);
        b.due("it is told now", x.count(3), 4);
        b.sentence("-1; -3 it was.");
        b.due("it was, by show()", x.show(1), -3);
        b.due("it was, by sit()", x.show(0), -3);
        b.due("none more is told", x.count(3), 4);
        some.refused("show", 0, (y, v) -> y.show(v[0]), new int[][] {{MIN_VALUE, -1, 0, 1, 2, 3, 4, MAX_VALUE}},
            Mixes.no(-1, v -> v[0] < 0 || v[0] > 3), Mixes.no(-3, v -> v[0] % 2 == 0));
        b.allQuoted();
    }

    private void drawer() {
        b.promise(29);
        b.plainly("drawer `int drawer(int plan, int what)`:");
        b.sentence("0 SITTINGS of a PLAN, 1 those told, 2 RIGHT of these, 3 LEAST, 4 MOST.");
        MilkFirst x = Given.some();
        int[][] due = {{1, 1, 2, 2, 2}, {2, 1, 5, 5, 10}, {0, 0, 0, 0, 0}, {0, 0, 0, 0, 0}, {1, 0, 0, 0, 4}};
        for (int plan = 0; plan < 5; plan++) {
            for (int what = 0; what < 5; what++) {
                b.due(what + " of " + plan, x.drawer(plan, what), due[plan][what]);
            }
        }
        b.sentence("-1; -2.");
        some.refused("drawer", 0, (y, v) -> y.drawer(v[0], v[1]), new int[][] {PLANS, Mixes.around(0, 4)},
            Mixes.no(-1, v -> Given.noPlan(v[0])),
            Mixes.no(-2, v -> v[1] < 0 || v[1] > 4));
        b.allQuoted();
    }

    private void turned() {
        b.promise(30);
        b.plainly("turned `int turned(int plan, int p)`:");
        b.sentence("TURNED; -9.");
        MilkFirst x = Given.some();
        b.due("of 10 5 are right, and 5 may be", x.turned(1, 1000), 0);
        b.due("one must be turned", x.turned(1, 999), 1);
        b.due("one is enough", x.turned(1, 500), 1);
        b.due("one isn't", x.turned(1, 499), -9);
        b.due("they can't is no REFUSAL", refusals(x), 0);
        b.sentence("-1; -3 no SITTINGS; -4; -6 (0 .. 1000).");
        some.refused("turned", 0, (y, v) -> y.turned(v[0], v[1]), new int[][] {PLANS, THOUSANDTHS}, Mixes.no(-1, v -> Given.noPlan(v[0])),
            Mixes.no(-3, v -> v[0] == Given.PAIRED || v[0] == Given.ODD), Mixes.no(-4, v -> v[1] < 0), Mixes.no(-6, v -> v[1] > 1000));
        b.allQuoted();
    }

    private void count() {
        b.promise(31);
        b.plainly("count `int count(int what)`:");
        b.sentence("0 PLANS, 1 RULES, 2 SITTINGS, 3 those told, 4 bytes on THE TAPE, 11 .. 16 REFUSALS -1 .. -6.");
        int[] ofSome = {5, 2, 4, 2, 2};
        int[] ofFull = {30, 20, 30, 15, 40};
        for (int what = 0; what <= 4; what++) {
            b.due(what + " of none", new MilkFirst().count(what), 0);
            b.due(what + " of some", Given.some().count(what), ofSome[what]);
            b.due(what + " of all there can be", Given.full().count(what), ofFull[what]);
        }
        MilkFirst x = Given.some();
        for (int i = 0; i < 60; i++) {
            x.size(9);
            if (i % 2 == 0) x.plan(9, 0, 0);
            if (i % 3 == 0) x.lots(0);
            if (i % 4 == 0) x.feed(0, 0);
            if (i % 5 == 0) x.line(0, 1001);
        }
        int[] refused = {60, 30, 20, 15, 0, 12};
        for (int i = 0; i < 6; i++) {
            b.due("REFUSALS -" + (i + 1), x.count(11 + i), refused[i]);
        }
        b.sentence("-9 for another what.");
        for (int what : new int[] {MIN_VALUE, MIN_VALUE + 11, -11, -1, 5, 6, 9, 10, 17, 18, MAX_VALUE}) {
            b.due("what " + what, x.count(what), -9);
        }
        b.due("it is no REFUSAL", refusals(x), 137);
        b.allQuoted();
    }
}
