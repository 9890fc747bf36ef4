/** What the tests share: each answer that is not the due one is printed, and ends the test with 1. */
final class Checks {
    private int asked = 0;
    private int wrong = 0;

    void due(String call, long got, long want) {
        asked++;
        if (got == want) return;
        wrong++;
        if (wrong <= 40) System.out.println(call + " answered " + got + ", due is " + want);
    }

    void holds(String claim, boolean held) {
        due(claim, held ? 1 : 0, 1);
    }

    void end(String test) {
        System.out.println(test + ": " + asked + " answers, " + wrong + " not as due");
        if (wrong != 0 || asked == 0) System.exit(1);
    }

    /** Feeds the text, eight bytes at a time, and makes it a RULE. */
    static int rule(MilkFirst x, String text) {
        feed(x, text);
        return x.rule();
    }

    static void feed(MilkFirst x, String text) {
        for (int i = 0; i < text.length(); i += 8) {
            int n = Math.min(8, text.length() - i);
            x.feed(n, packed(text.substring(i, i + n)));
        }
    }

    static long packed(String text) {
        long bytes = 0;
        for (int i = text.length() - 1; i >= 0; i--) {
            bytes = bytes << 8 | text.charAt(i) & 255;
        }
        return bytes;
    }
}
