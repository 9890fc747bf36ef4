import static java.lang.Integer.MAX_VALUE;
import static java.lang.Integer.MIN_VALUE;

/** Part I of the Terms and promises 1 to 6: PLANS and how often each END comes. */
final class PlansBounds {
    private static final long L = Bounds.LONG_REFUSAL;
    private static final int[] PLANS = Mixes.around(0, 4);
    private static final int[] ABLE = Mixes.around(0, 10);
    private static final int[] PARTS = Mixes.around(0, 1);

    private final Bounds b;
    private final Mixes some;

    PlansBounds(Bounds bounds) {
        b = bounds;
        some = new Mixes(bounds, Given::some);
    }

    void run() {
        lastCall();
        terms();
        newObject();
        plan();
        size();
        odds();
        least();
        mean();
    }

    private void lastCall() {
        b.part("## What it is", "## The public face");
        b.sentence("An object is used for at most 512 calls after it has been made; what later calls answer is free.");
        MilkFirst refusing = new MilkFirst();
        MilkFirst reckoning = Given.plan(Given.FIXED, 12, 6);
        MilkFirst reading = Given.plan(Given.LOOSE, 1, 0);
        for (int i = 1; i <= 510; i++) {
            b.due("refused, call " + i, refusing.size(-1), -1);
            b.due("reckoned, call " + (i + 1), reckoning.belief(0, 99, 99, i % 11, 121) > 0 ? 1 : 0, 1);
            if (i % 2 == 1) b.due("fed, call " + (i + 1), reading.feed(2, 0), 2);
            else b.due("a FAULT, call " + (i + 1), reading.rule(), -20);
        }
        b.due("refused, call 511", refusing.size(-1), -1);
        b.due("call 512 counts them", refusing.count(11), 511);
        b.due("call 512 reckons", reckoning.least(0, 5, 12, 1), 924);
        b.due("call 512 makes", reading.plan(Given.LOOSE, 12, 0), 1);
    }

    private void terms() {
        b.part("## Terms", "==== II.");
        planNumbers();
        loose();
        fixed();
        paired();
        odd();
        blocked();
        ends();
        sizes();
        able();
        saysLoose();
        saysFixed();
        saysPaired();
        saysOdd();
        nobody();
        fractions();
        b.allQuoted();
    }

    private void planNumbers() {
        b.sentence("PLANS have numbers from 0 on (30 at most), a KIND, an N and a K:");
        MilkFirst x = new MilkFirst();
        for (int i = 0; i < 30; i++) {
            b.due("the refused before " + i, x.plan(Given.LOOSE, 13, 0), -6);
            b.due("plan " + i, x.plan(i % 5, 2, 1), i);
        }
        b.due("one more", x.plan(Given.LOOSE, 1, 0), -6);
        b.due("the last is there", x.size(29), 8);
        b.due("one more isn't", x.size(30), -1);
        b.due("count", x.count(0), 30);
    }

    private void counts(int kind, int k, int least, int greatest) {
        for (int n : new int[] {MIN_VALUE, -1, least - 1}) {
            b.due("N " + n, new MilkFirst().plan(kind, n, k), -4);
        }
        for (int n = least; n <= greatest; n++) {
            b.due("N " + n, new MilkFirst().plan(kind, n, k), 0);
        }
        for (int n : new int[] {greatest + 1, MAX_VALUE}) {
            b.due("N " + n, new MilkFirst().plan(kind, n, k), -6);
        }
    }

    /** Whatever K was given. */
    private void noneIsK(int kind) {
        for (int k : new int[] {MIN_VALUE, -1, 0, 1, 2, 3, 99, MAX_VALUE}) {
            MilkFirst x = Given.rules("k=0");
            b.due("K " + k, x.plan(kind, 2, k), 0);
            b.due("it has K 0, given " + k, x.believes(0, 0, 1), 1);
        }
    }

    private void loose() {
        b.sentence("0 LOOSE: N cups (1 .. 12), each milk first or not by a fair lot of its own (K 0).");
        counts(Given.LOOSE, 0, 1, 12);
        noneIsK(Given.LOOSE);
        MilkFirst x = Given.plan(Given.LOOSE, 12, 0);
        b.fraction("one has all twelve right", part -> x.odds(0, 5, 12, part), 1, 4096);
        b.fraction("just eleven", part -> x.odds(0, 5, 11, part), 3, 1024);
    }

    private void fixed() {
        b.sentence("1 FIXED under LOOSE: N cups (1 .. 12), just K of them (1 .. N less 1; N 2 or more) milk first,"
            + " all such ways alike; she knows K and names just K.");
        counts(Given.FIXED, 1, 2, 12);
        for (int n = 2; n <= 12; n++) {
            for (int k : new int[] {MIN_VALUE, -1, 0}) {
                b.due("K " + k + " of " + n, new MilkFirst().plan(Given.FIXED, n, k), -4);
            }
            for (int k : new int[] {n, n + 1, MAX_VALUE}) {
                b.due("K " + k + " of " + n, new MilkFirst().plan(Given.FIXED, n, k), -6);
            }
            for (int k = 1; k < n; k++) {
                MilkFirst x = Given.plan(Given.FIXED, n, k);
                b.fraction("all ways alike, " + k + " of " + n, part -> x.odds(0, 5, x.size(0), part), 1, x.lots(0));
                b.fraction("naming K, one less is never", part -> x.odds(0, 7, x.size(0) - 1, part), 0, 1);
            }
        }
    }

    private void paired() {
        b.sentence("2 PAIRED under LOOSE: N pairs (1 .. 6), one of each in a pair; she says which (K 0).");
        counts(Given.PAIRED, 0, 1, 6);
        noneIsK(Given.PAIRED);
    }

    private void odd() {
        b.sentence("3 ODD under LOOSE: N threes (1 .. 4), one unlike the other two (which by lot; K 0); she says which.");
        counts(Given.ODD, 0, 1, 4);
        noneIsK(Given.ODD);
    }

    private void blocked() {
        b.sentence("4 BLOCKED under FIXED: N blocks (1 .. 3) of four cups, K (1 .. 3) of each milk first, she names K in each.");
        counts(Given.BLOCKED, 1, 1, 3);
        for (int n = 1; n <= 3; n++) {
            for (int k : new int[] {MIN_VALUE, -1, 0}) {
                b.due("K " + k + " of " + n, new MilkFirst().plan(Given.BLOCKED, n, k), -4);
            }
            for (int k = 1; k <= 3; k++) {
                b.due("K " + k + " of " + n, new MilkFirst().plan(Given.BLOCKED, n, k), 0);
            }
            for (int k : new int[] {4, 5, MAX_VALUE}) {
                b.due("K " + k + " of " + n, new MilkFirst().plan(Given.BLOCKED, n, k), -6);
            }
        }
        int[] belowAll = {64, 216, 64};
        for (int k = 1; k <= 3; k++) {
            MilkFirst x = Given.plan(Given.BLOCKED, 3, k);
            b.fraction("three blocks right, K " + k, part -> x.odds(0, 5, 12, part), 1, belowAll[k - 1]);
        }
    }

    private void ends() {
        b.sentence("ENDS: how many RIGHT: LOOSE, FIXED, BLOCKED: cups named as they are; PAIRED, ODD: pairs, threes.");
        // Of the kind, N, K: the least RIGHT that can be, and the greatest.
        int[][] plans = {{0, 1, 0, 0, 1}, {0, 12, 0, 0, 12}, {1, 2, 1, 0, 2}, {1, 5, 1, 3, 5}, {1, 5, 4, 3, 5}, {1, 12, 6, 0, 12},
            {1, 12, 11, 10, 12}, {2, 1, 0, 0, 1}, {2, 6, 0, 0, 6}, {3, 1, 0, 0, 1}, {3, 4, 0, 0, 4}, {4, 1, 1, 2, 4}, {4, 1, 2, 0, 4},
            {4, 3, 3, 6, 12}, {4, 3, 2, 0, 12}};
        for (int[] plan : plans) {
            MilkFirst x = Given.plan(plan[0], plan[1], plan[2]);
            String name = plan[0] + " " + plan[1] + " " + plan[2];
            b.due("the greatest of " + name, x.size(0), plan[4]);
            b.due("the greatest can be, " + name, x.odds(0, 5, plan[4], 0) > 0 ? 1 : 0, 1);
            b.due("the least can be, " + name, x.odds(0, 5, plan[3], 0) > 0 ? 1 : 0, 1);
            for (int right = 0; right < plan[3]; right++) {
                b.due("fewer can't, " + name, x.odds(0, 5, right, 0), 0);
            }
        }
    }

    private void sizes() {
        b.sentence("SIZE: the most RIGHT (N, of BLOCKED 4 N).");
        int[][] plans = {{0, 1, 1}, {0, 12, 12}, {1, 2, 2}, {1, 12, 12}, {2, 1, 1}, {2, 6, 6}, {3, 1, 1}, {3, 4, 4}, {4, 1, 4},
            {4, 2, 8}, {4, 3, 12}};
        for (int[] plan : plans) {
            b.due("KIND " + plan[0] + " N " + plan[1], Given.plan(plan[0], plan[1], 1).size(0), plan[2]);
        }
    }

    private void able() {
        b.sentence("A TASTER is ABLE by a (0 .. 10): each cup seems as it is in a of 10 cases, else the other way, each for itself.");
        MilkFirst x = Given.plan(Given.LOOSE, 12, 0);
        b.fraction("the least: none is right", part -> x.odds(0, 0, 0, part), 1, 1);
        b.fraction("the least: not one is", part -> x.odds(0, 0, 1, part), 0, 1);
        b.fraction("the greatest: all are", part -> x.odds(0, 10, 12, part), 1, 1);
        b.fraction("the greatest: not one isn't", part -> x.odds(0, 10, 11, part), 0, 1);
        b.fraction("each for itself", part -> x.odds(0, 9, 12, part), 282429536481L, 1000000000000L);
        b.fraction("each for itself the other way", part -> x.odds(0, 9, 0, part), 1, 1000000000000L);
        b.due("below", x.odds(0, -1, 0, 0), L + 4);
        b.due("above", x.odds(0, 11, 0, 0), L + 6);
    }

    private void saysLoose() {
        b.sentence("She says: LOOSE: as it seems.");
        MilkFirst x = Given.plan(Given.LOOSE, 1, 0);
        int[][] due = {{0, 1}, {1, 10}, {1, 5}, {3, 10}, {2, 5}, {1, 2}, {3, 5}, {7, 10}, {4, 5}, {9, 10}, {1, 1}};
        for (int a = 0; a <= 10; a++) {
            int able = a;
            b.fraction("one cup, " + a, part -> x.odds(0, able, 1, part), due[a][0], due[a][1]);
        }
    }

    private void saysFixed() {
        b.sentence("FIXED (BLOCKED in each block): if K or more seem milk first she names K of these by lot;"
            + " if fewer all these, and of the others as many as lack by lot.");
        // One of three, 9 of 10: the milk first seems so: with none (.81), one (.18), both (.01) of the others, the lot is
        // of one, two, three; it doesn't: only if no other does (.81) the lot is of three. .9 (.81 + .09 + .01 / 3) + .081 / 3.
        for (int k = 1; k <= 2; k++) {
            MilkFirst x = Given.plan(Given.FIXED, 3, k);
            b.fraction("more than K, just K, fewer; K " + k, part -> x.odds(0, 9, 3, part), 21, 25);
            b.fraction("all the other way, one is right, K " + k, part -> x.odds(0, 0, 1, part), 1, 1);
            b.fraction("all as they are, K " + k, part -> x.odds(0, 10, 3, part), 1, 1);
        }
        MilkFirst x = Given.plan(Given.FIXED, 8, 4);
        b.fraction("just K, each the other way", part -> x.odds(0, 0, 0, part), 1, 1);
        for (int k = 1; k <= 3; k++) {
            MilkFirst y = Given.plan(Given.BLOCKED, 1, k);
            y.plan(Given.FIXED, 4, k);
            for (int right = 0; right <= 4; right++) {
                for (int a = 0; a <= 10; a++) {
                    b.due("one block is FIXED, K " + k, y.odds(0, a, right, 0), y.odds(1, a, right, 0));
                    b.due("one block is FIXED, K " + k, y.odds(0, a, right, 1), y.odds(1, a, right, 1));
                }
            }
        }
    }

    private void saysPaired() {
        b.sentence("PAIRED: if the two seem unlike, as they seem; else by lot.");
        MilkFirst x = Given.plan(Given.PAIRED, 1, 0);
        // .81, and a half of .18 in which they seem alike.
        b.fraction("9 of 10", part -> x.odds(0, 9, 1, part), 9, 10);
        b.fraction("always unlike, the other way", part -> x.odds(0, 0, 1, part), 0, 1);
        b.fraction("always unlike, as they are", part -> x.odds(0, 10, 1, part), 1, 1);
        b.fraction("a nobody", part -> x.odds(0, 5, 1, part), 1, 2);
    }

    private void saysOdd() {
        b.sentence("ODD: if just one seems unlike the other two that one; else one by lot.");
        MilkFirst x = Given.plan(Given.ODD, 1, 0);
        // .729 as they are, .001 all the other way, and a third of .09 in which all three seem alike.
        b.fraction("9 of 10", part -> x.odds(0, 9, 1, part), 19, 25);
        b.fraction("all the other way, the same one is unlike", part -> x.odds(0, 0, 1, part), 1, 1);
        b.fraction("all as they are", part -> x.odds(0, 10, 1, part), 1, 1);
        b.fraction("a nobody", part -> x.odds(0, 5, 1, part), 1, 3);
    }

    private void nobody() {
        b.sentence("A NOBODY is ABLE by 5.");
        MilkFirst x = Given.rules("r=s");
        x.plan(Given.ODD, 2, 0);
        b.fraction("both threes, ABLE by 5", part -> x.odds(0, 5, 2, part), 1, 9);
        b.due("her LINE", x.line(0, 112), 2);
        b.due("her LINE, just not", x.line(0, 111), 3);
        b.fraction("one of one, a NOBODY", part -> x.many(0, 0, 1, part), 1, 9);
        b.fraction("weighed, a NOBODY and one ABLE by 5", part -> x.belief(0, 1, 1, 5, 20 + part), 1, 2);
        b.due("she is KEPT", x.kept(1, 1, 500), 1);
    }

    private void fractions() {
        b.sentence("ODDS are FRACTIONS in least terms, by part: 0 above, 1 below the line (0 is 0 by 1).");
        MilkFirst x = Given.plan(Given.LOOSE, 2, 0);
        b.fraction("least terms", part -> x.odds(0, 5, 1, part), 1, 2);
        b.fraction("0 is 0 by 1", part -> x.odds(0, 10, 1, part), 0, 1);
        b.fraction("1 is 1 by 1", part -> x.odds(0, 10, 2, part), 1, 1);
        b.fraction("0 in the mean", part -> x.mean(0, 0, part), 0, 1);
        b.fraction("never stopped", part -> x.well(1, 0, 1, 7, part), 0, 1);
        x.plan(Given.FIXED, 8, 4);
        b.fraction("below 0, the sign above", part -> x.gain(1, 7, part), -7749, 31250);
        b.fraction("no gain", part -> x.gain(1, 10, part), 0, 1);
    }

    private void newObject() {
        b.promise(1);
        b.plainly("A new object `MilkFirst()`:");
        b.sentence("No PLANS.");
        MilkFirst x = new MilkFirst();
        for (int what : new int[] {0, 1, 2, 3, 4, 11, 12, 13, 14, 15, 16}) {
            b.due("count " + what, x.count(what), 0);
        }
        b.due("no PLAN", x.size(0), -1);
        b.due("no RULE", x.believes(0, 0, 0), -1);
        b.due("no SITTING", x.show(0), -1);
        b.due("nothing on THE TAPE", x.rule(), -20);
        b.due("the first", x.plan(Given.LOOSE, 1, 0), 0);
        b.due("another object has none", new MilkFirst().size(0), -1);
        b.allQuoted();
    }

    private void plan() {
        b.promise(2);
        b.plainly("plan `int plan(int kind, int n, int k)`:");
        b.sentence("A PLAN: its number.");
        MilkFirst x = new MilkFirst();
        for (int kind = 0; kind < 5; kind++) {
            b.due("KIND " + kind, x.plan(kind, 1 + kind % 3, kind == 1 ? 1 : 3), kind);
        }
        b.sentence("-2; -4; -6 (N, K, 30).");
        int[][] values = {Mixes.around(0, 4), Mixes.some(MIN_VALUE, -1, 0, 1, 2, 3, 4, 5, 6, 7, 12, 13, MAX_VALUE),
            Mixes.some(MIN_VALUE, -1, 0, 1, 2, 3, 4, 5, 6, 11, 12, 13, MAX_VALUE)};
        some.refused("plan", 0, PlansBounds::planned, values, Mixes.no(-2, v -> noKind(v[0])), Mixes.no(-4, PlansBounds::below),
            Mixes.no(-6, PlansBounds::above));
        new Mixes(b, Given::full).refused("plan, of 30", 0, PlansBounds::planned, values, Mixes.no(-2, v -> noKind(v[0])),
            Mixes.no(-4, PlansBounds::below), Mixes.no(-6, v -> true));
        b.sentence("(K of others than FIXED, BLOCKED counts nothing.)");
        for (int kind : new int[] {Given.LOOSE, Given.PAIRED, Given.ODD}) {
            noneIsK(kind);
        }
        b.allQuoted();
    }

    private static long planned(MilkFirst x, int[] v) {
        return x.plan(v[0], v[1], v[2]);
    }

    private static boolean noKind(int kind) {
        return kind < 0 || kind > 4;
    }

    private static boolean below(int[] v) {
        return v[1] < (v[0] == 1 ? 2 : 1) || (v[0] == 1 || v[0] == 4) && v[2] < 1;
    }

    private static boolean above(int[] v) {
        int[] most = {12, 12, 6, 4, 3};
        return v[1] > most[v[0]] || v[0] == 1 && v[2] > v[1] - 1 || v[0] == 4 && v[2] > 3;
    }

    private void size() {
        b.promise(3);
        b.plainly("size `int size(int plan)`:");
        b.sentence("SIZE.");
        for (int plan = 0; plan < 5; plan++) {
            b.due("of " + plan, Given.some().size(plan), Given.size(plan));
        }
        b.sentence("-1.");
        some.refused("size", 0, (x, v) -> x.size(v[0]), new int[][] {PLANS}, Mixes.no(-1, v -> Given.noPlan(v[0])));
        b.due("no PLANS", new MilkFirst().size(0), -1);
        b.allQuoted();
    }

    private void odds() {
        b.promise(4);
        b.plainly("odds `long odds(int plan, int a, int right, int part)`:");
        b.sentence("How often just so many are RIGHT.");
        MilkFirst x = Given.plan(Given.LOOSE, 2, 0);
        b.fraction("none", part -> x.odds(0, 9, 0, part), 1, 100);
        b.fraction("just one", part -> x.odds(0, 9, 1, part), 9, 50);
        b.fraction("SIZE", part -> x.odds(0, 9, 2, part), 81, 100);
        b.sentence("-2; -1; -4; -6 (a; RIGHT above SIZE).");
        int[] rights = Mixes.some(MIN_VALUE, -1, 0, 1, 2, 3, 4, 5, 6, MAX_VALUE);
        some.refused("odds", L, (y, v) -> y.odds(v[0], v[1], v[2], v[3]), new int[][] {PLANS, ABLE, rights, PARTS},
            Mixes.no(-2, v -> Given.noPart(v[3])), Mixes.no(-1, v -> Given.noPlan(v[0])), Mixes.no(-4, v -> v[1] < 0 || v[2] < 0),
            Mixes.no(-6, v -> v[1] > 10 || v[2] > Given.size(v[0])));
        b.allQuoted();
    }

    private void least() {
        b.promise(5);
        b.plainly("least `long least(int plan, int a, int right, int part)`:");
        b.sentence("How often so many or more (0 .. SIZE and 1).");
        MilkFirst x = Given.plan(Given.LOOSE, 2, 0);
        b.fraction("0 or more", part -> x.least(0, 9, 0, part), 1, 1);
        b.fraction("1 or more", part -> x.least(0, 9, 1, part), 99, 100);
        b.fraction("SIZE or more", part -> x.least(0, 9, 2, part), 81, 100);
        b.fraction("SIZE and 1", part -> x.least(0, 9, 3, part), 0, 1);
        b.due("SIZE and 2", x.least(0, 9, 4, 0), L + 6);
        b.due("less than 0", x.least(0, 9, -1, 0), L + 4);
        MilkFirst twelve = Given.plan(Given.BLOCKED, 3, 2);
        b.fraction("SIZE 12 and 1", part -> twelve.least(0, 10, 13, part), 0, 1);
        b.due("SIZE 12 and 2", twelve.least(0, 10, 14, 0), L + 6);
        b.sentence("Refused as odds().");
        int[] rights = Mixes.some(MIN_VALUE, -1, 0, 2, 3, 4, 5, 6, 7, MAX_VALUE);
        some.refused("least", L, (y, v) -> y.least(v[0], v[1], v[2], v[3]), new int[][] {PLANS, ABLE, rights, PARTS},
            Mixes.no(-2, v -> Given.noPart(v[3])), Mixes.no(-1, v -> Given.noPlan(v[0])), Mixes.no(-4, v -> v[1] < 0 || v[2] < 0),
            Mixes.no(-6, v -> v[1] > 10 || v[2] > Given.size(v[0]) + 1));
        b.allQuoted();
    }

    private void mean() {
        b.promise(6);
        b.plainly("mean `long mean(int plan, int a, int part)`:");
        b.sentence("How many are RIGHT in the mean.");
        MilkFirst x = Given.plan(Given.LOOSE, 12, 0);
        b.fraction("none", part -> x.mean(0, 0, part), 0, 1);
        b.fraction("9 of 10 of twelve", part -> x.mean(0, 9, part), 54, 5);
        b.fraction("all", part -> x.mean(0, 10, part), 12, 1);
        b.sentence("-2; -1; -4; -6.");
        some.refused("mean", L, (y, v) -> y.mean(v[0], v[1], v[2]), new int[][] {PLANS, ABLE, PARTS},
            Mixes.no(-2, v -> Given.noPart(v[2])), Mixes.no(-1, v -> Given.noPlan(v[0])), Mixes.no(-4, v -> v[1] < 0),
            Mixes.no(-6, v -> v[1] > 10));
        b.allQuoted();
    }
}
