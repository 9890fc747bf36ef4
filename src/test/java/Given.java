/** Objects that the tests of boundaries begin with. */
final class Given {
    static final int LOOSE = 0;
    static final int FIXED = 1;
    static final int PAIRED = 2;
    static final int ODD = 3;
    static final int BLOCKED = 4;

    private static final int[][] SHAPES = {{LOOSE, 3, 0}, {FIXED, 5, 2}, {PAIRED, 2, 0}, {ODD, 2, 0}, {BLOCKED, 1, 2}};
    private static final int[] SIZES = {3, 5, 2, 2, 4};

    private Given() {
    }

    static MilkFirst plan(int kind, int n, int k) {
        MilkFirst x = new MilkFirst();
        x.plan(kind, n, k);
        return x;
    }

    static MilkFirst rules(String... texts) {
        MilkFirst x = new MilkFirst();
        for (String text : texts) {
            Checks.rule(x, text);
        }
        return x;
    }

    /** A PLAN of each KIND by its number, two RULES, two bytes on THE TAPE, four SITTINGS, two of them told. */
    static MilkFirst some() {
        MilkFirst x = rules("r=s", "r<0");
        for (int[] shape : SHAPES) {
            x.plan(shape[0], shape[1], shape[2]);
        }
        Checks.feed(x, "r=");
        x.sit(LOOSE, 2, true);
        x.sit(FIXED, 3, false);
        x.sit(FIXED, 5, true);
        x.sit(BLOCKED, 4, false);
        return x;
    }

    /** As some(), with all of what there can be at most. */
    static MilkFirst full() {
        MilkFirst x = new MilkFirst();
        for (int i = 0; i < 30; i++) {
            int[] shape = SHAPES[i % SHAPES.length];
            x.plan(shape[0], shape[1], shape[2]);
            x.sit(i % SHAPES.length, i % 3, i % 2 == 0);
        }
        for (int i = 0; i < 20; i++) {
            Checks.rule(x, "r=" + i);
        }
        Checks.feed(x, "r=1|".repeat(9) + "r=12");
        return x;
    }

    static boolean noPlan(int plan) {
        return plan < 0 || plan >= SHAPES.length;
    }

    static boolean noRule(int rule) {
        return rule < 0 || rule > 1;
    }

    static boolean noPart(int part) {
        return part != 0 && part != 1;
    }

    /** The SIZE of a PLAN of some(), which has it. */
    static int size(int plan) {
        return SIZES[plan];
    }
}
