import static java.lang.Integer.MAX_VALUE;
import static java.lang.Integer.MIN_VALUE;

/** Of part IV of the Terms LOTS and MARKS, and promises 19 to 26. */
final class LotsBounds {
    private static final int[] PLANS = Mixes.some(MIN_VALUE, -1, 0, 1, 2, 3, 4, 5, MAX_VALUE);
    /** Of FIXED 5 2: lots, sets that are none, and such as lie beyond. */
    private static final int[] SETS = Mixes.some(MIN_VALUE, MIN_VALUE + 3, -1, 0, 1, 2, 3, 4, 7, 17, 24, 31, 32, 33, 48, 4095,
        4096, 4099, MAX_VALUE);
    private static final int[] MARKS = Mixes.around(0, 4095);

    private final Bounds b;
    private final Mixes some;

    LotsBounds(Bounds bounds) {
        b = bounds;
        some = new Mixes(bounds, Given::some);
    }

    /** Behind the Terms' part IV is begun. */
    void terms() {
        lotNumbers();
        leans();
        evens();
        bestLots();
        marks();
        frees();
    }

    void run() {
        lots();
        lot();
        rank();
        lean();
        even();
        bestLot();
        marked();
        free();
    }

    private static boolean noLot(int set) {
        return set < 0 || set > 31 || Integer.bitCount(set) != 2;
    }

    private static Mixes.No notFixed() {
        return Mixes.no(-3, v -> v[0] != Given.FIXED);
    }

    private static Mixes.No noPlan() {
        return Mixes.no(-1, v -> Given.noPlan(v[0]));
    }

    private static MilkFirst fixed(int n, int k) {
        return Given.plan(Given.FIXED, n, k);
    }

    private void lotNumbers() {
        b.sentence("LOTS of FIXED: sets of K of N cups as bits (cup 0 the lowest), by their numbers, rising: the i-th; RANK of a set.");
        for (int n = 2; n <= 12; n++) {
            for (int k = 1; k < n; k++) {
                MilkFirst x = fixed(n, k);
                int i = 0;
                for (int set = 0; set < 1 << n && i < 200; set++) {
                    if (Integer.bitCount(set) != k) continue;
                    b.due("lot " + i + " of " + n + " " + k, x.lot(0, i), set);
                    b.due("rank of " + set + " of " + n + " " + k, x.rank(0, set), i);
                    i++;
                }
            }
        }
        MilkFirst x = fixed(12, 6);
        b.due("the first of the most", x.lot(0, 0), 63);
        b.due("the last of the most", x.lot(0, 923), 4032);
        b.due("its rank", x.rank(0, 4032), 923);
    }

    private void leans() {
        b.sentence("LEAN of a set: the sum of places (0 ..) of those milk first times N, less K times the sum of all places;");
        b.due("place 0 is 0", fixed(2, 1).lean(0, 1), -1);
        b.due("place 1 is 1", fixed(2, 1).lean(0, 2), 1);
        b.due("the first of the most", fixed(12, 6).lean(0, 63), -216);
        b.due("the last of the most", fixed(12, 6).lean(0, 4032), 216);
        b.due("all but the first", fixed(12, 11).lean(0, 4094), 66);
        b.due("all but the last", fixed(12, 11).lean(0, 2047), -66);
        b.due("even", fixed(3, 1).lean(0, 2), 0);
    }

    private void evens() {
        b.sentence("EVEN: how many sets LEAN by 0;");
        b.due("just one", fixed(3, 1).even(0), 1);
        b.due("none", fixed(4, 1).even(0), 0);
        b.due("none of two", fixed(2, 1).even(0), 0);
        b.due("of four two", fixed(4, 2).even(0), 2);
        b.due("one of eleven", fixed(11, 1).even(0), 1);
        b.due("all but one of eleven", fixed(11, 10).even(0), 1);
        // Six of twelve with places of 33 in all: as many ways to part 0 .. 11 so.
        int found = 0;
        for (int set = 0; set < 4096; set++) {
            int places = 0;
            for (int cup = 0; cup < 12; cup++) {
                places += (set >> cup & 1) * cup;
            }
            if (Integer.bitCount(set) == 6 && places == 33) found++;
        }
        b.due("of the most", fixed(12, 6).even(0), found);
    }

    private void bestLots() {
        b.sentence("BEST LOT: the set with the least LEAN without its sign, of several the first.");
        b.due("of -1 and 1", fixed(2, 1).bestLot(0), 1);
        b.due("of -6, -2, 2, 6", fixed(4, 1).bestLot(0), 2);
        b.due("0 is the least", fixed(3, 1).bestLot(0), 2);
        b.due("of two by 0", fixed(4, 2).bestLot(0), 6);
        b.due("all but one", fixed(4, 3).bestLot(0), 11);
        MilkFirst x = fixed(12, 6);
        int best = x.bestLot(0);
        b.due("of the most", x.lean(0, best), 0);
        for (int i = 0; i < x.rank(0, best) && i < 400; i++) {
            b.due("none before it", x.lean(0, x.lot(0, i)) == 0 ? 1 : 0, 0);
            if (i % 150 == 149) x = fixed(12, 6);
        }
    }

    private void marks() {
        b.sentence("MARKS: another mark of cups as bits: how many cups have it just as the set says;");
        MilkFirst x = fixed(12, 6);
        b.due("all", x.marked(0, 63, 63), 12);
        b.due("none", x.marked(0, 63, 4032), 0);
        b.due("no cup is marked", x.marked(0, 63, 0), 6);
        b.due("each cup is marked", x.marked(0, 63, 4095), 6);
        b.due("cup 0 is not", x.marked(0, 63, 62), 11);
        b.due("cup 11 is", x.marked(0, 63, 63 + 2048), 11);
    }

    private void frees() {
        b.sentence("FREE: of a mark how many of all LOTS agree with it in r cups.");
        MilkFirst x = fixed(12, 6);
        b.due("in all", x.free(0, 63, 12), 1);
        b.due("in none", x.free(0, 63, 0), 1);
        b.due("in an odd number never", x.free(0, 63, 11), 0);
        b.due("in ten", x.free(0, 63, 10), 36);
        b.due("no cup is marked: in six", x.free(0, 0, 6), 924);
        b.due("no cup is marked: not in seven", x.free(0, 0, 7), 0);
        b.due("each cup is marked: in six", x.free(0, 4095, 6), 924);
        b.due("the least", fixed(2, 1).free(0, 1, 2), 1);
        b.due("the least the other way", fixed(2, 1).free(0, 1, 0), 1);
    }

    private void lots() {
        b.promise(19);
        b.plainly("lots `int lots(int plan)`:");
        b.sentence("How many LOTS there are.");
        b.due("the fewest", fixed(2, 1).lots(0), 2);
        b.due("one of twelve", fixed(12, 1).lots(0), 12);
        b.due("all but one of twelve", fixed(12, 11).lots(0), 12);
        b.due("the most", fixed(12, 6).lots(0), 924);
        b.sentence("-1; -3 not FIXED.");
        some.refused("lots", 0, (x, v) -> x.lots(v[0]), new int[][] {PLANS}, noPlan(), notFixed());
        b.allQuoted();
    }

    private void lot() {
        b.promise(20);
        b.plainly("lot `int lot(int plan, int i)`:");
        b.sentence("The i-th LOT.");
        MilkFirst x = Given.some();
        b.due("the first", x.lot(1, 0), 3);
        b.due("the last", x.lot(1, 9), 24);
        b.sentence("-1 (no such one, too); -3.");
        // Of a PLAN that is not FIXED nobody knows how many there were: -3, whatever i.
        int[] numbers = Mixes.around(0, 9);
        some.refused("lot", 0, (y, v) -> y.lot(v[0], v[1]), new int[][] {PLANS, numbers}, noPlan(), notFixed(),
            Mixes.no(-1, v -> v[1] < 0 || v[1] > 9));
        b.due("beyond the fewest", fixed(2, 1).lot(0, 2), -1);
        b.due("beyond the most", fixed(12, 6).lot(0, 924), -1);
        b.allQuoted();
    }

    private void rank() {
        b.promise(21);
        b.plainly("rank `int rank(int plan, int set)`:");
        b.sentence("RANK.");
        MilkFirst x = Given.some();
        b.due("of the first", x.rank(1, 3), 0);
        b.due("of the last", x.rank(1, 24), 9);
        b.sentence("-1 (no LOT, too); -3.");
        some.refused("rank", 0, (y, v) -> y.rank(v[0], v[1]), new int[][] {PLANS, SETS}, noPlan(), notFixed(),
            Mixes.no(-1, v -> noLot(v[1])));
        b.due("of the twelve the last cup", fixed(12, 1).rank(0, 2048), 11);
        b.due("of the twelve the next", fixed(12, 1).rank(0, 4096), -1);
        b.due("the sign's bit is no cup", fixed(12, 1).rank(0, MIN_VALUE), -1);
        b.allQuoted();
    }

    private void lean() {
        b.promise(22);
        b.plainly("lean `int lean(int plan, int set)`:");
        b.sentence("LEAN.");
        MilkFirst x = Given.some();
        b.due("of the first", x.lean(1, 3), -15);
        b.due("of the last", x.lean(1, 24), 15);
        b.sentence("Refused as told: -1; -3.");
        some.refused("lean", Bounds.LEAN_REFUSAL, (y, v) -> y.lean(v[0], v[1]), new int[][] {PLANS, SETS}, noPlan(), notFixed(),
            Mixes.no(-1, v -> noLot(v[1])));
        b.allQuoted();
    }

    private void even() {
        b.promise(23);
        b.plainly("even `int even(int plan)`:");
        b.sentence("EVEN.");
        b.due("of ten two", Given.some().even(1), 2);
        b.sentence("-1; -3.");
        some.refused("even", 0, (x, v) -> x.even(v[0]), new int[][] {PLANS}, noPlan(), notFixed());
        b.allQuoted();
    }

    private void bestLot() {
        b.promise(24);
        b.plainly("bestLot `int bestLot(int plan)`:");
        b.sentence("BEST LOT.");
        b.due("of ten, the first by 0", Given.some().bestLot(1), 10);
        b.sentence("-1; -3.");
        some.refused("bestLot", 0, (x, v) -> x.bestLot(v[0]), new int[][] {PLANS}, noPlan(), notFixed());
        b.allQuoted();
    }

    private void marked() {
        b.promise(25);
        b.plainly("marked `int marked(int plan, int set, int mark)`:");
        b.sentence("How many cups have a MARK (0 .. 4095; those beyond N count nothing) as the LOT says milk first.");
        MilkFirst x = Given.some();
        b.due("the least mark", x.marked(1, 3, 0), 3);
        b.due("the greatest mark", x.marked(1, 3, 4095), 2);
        b.due("all beyond N", x.marked(1, 3, 4064), 3);
        b.due("all beyond N, and as the lot", x.marked(1, 3, 4064 + 3), 5);
        b.due("the last cup", x.marked(1, 24, 16), 4);
        b.due("the first beyond", x.marked(1, 24, 32), 3);
        b.due("beyond two", fixed(2, 1).marked(0, 1, 4095 - 2), 2);
        b.sentence("-1; -3; -4; -6.");
        some.refused("marked", 0, (y, v) -> y.marked(v[0], v[1], v[2]), new int[][] {PLANS, SETS, MARKS}, noPlan(), notFixed(),
            Mixes.no(-1, v -> noLot(v[1])), Mixes.no(-4, v -> v[2] < 0), Mixes.no(-6, v -> v[2] > 4095));
        b.allQuoted();
    }

    private void free() {
        b.promise(26);
        b.plainly("free `int free(int plan, int mark, int r)`:");
        b.sentence("FREE.");
        MilkFirst x = Given.some();
        b.due("in all", x.free(1, 3, 5), 1);
        b.due("in three", x.free(1, 3, 3), 6);
        b.due("in one", x.free(1, 3, 1), 3);
        b.due("in none", x.free(1, 3, 0), 0);
        b.due("beyond N counts nothing", x.free(1, 4064 + 3, 5), 1);
        b.due("the least mark", x.free(1, 0, 3), 10);
        b.due("the greatest mark", x.free(1, 4095, 2), 10);
        b.sentence("-1; -3; -4; -6 (mark; r above N).");
        some.refused("free", 0, (y, v) -> y.free(v[0], v[1], v[2]), new int[][] {PLANS, MARKS, Mixes.around(0, 5)}, noPlan(), notFixed(),
            Mixes.no(-4, v -> v[1] < 0 || v[2] < 0), Mixes.no(-6, v -> v[1] > 4095 || v[2] > 5));
        b.due("r above the least N", fixed(2, 1).free(0, 0, 3), -6);
        b.due("r the greatest N", fixed(12, 6).free(0, 0, 12), 0);
        b.due("r above the greatest N", fixed(12, 6).free(0, 0, 13), -6);
        b.allQuoted();
    }
}
