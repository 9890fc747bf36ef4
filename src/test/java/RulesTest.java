import java.util.ArrayDeque;
import java.util.Random;

/** Texts of all sorts: where their FAULT is, told by a machine of states, and what they hold, told as they are made. */
public final class RulesTest {
    private static final Checks CHECKS = new Checks();
    private static final String SIGNS = "rwsnkp0123456789+-*<=>&|!()!!((r=";
    private static final Random DICE = new Random(1935);
    private static final int[][] SHAPES = {{0, 9, 0}, {1, 8, 3}, {2, 5, 0}, {3, 4, 0}, {4, 3, 2}};

    public static void main(String[] args) {
        for (int i = 0; i < 40000; i++) {
            checkText(randomText());
        }
        for (int i = 0; i < 40000; i++) {
            String text = new Made(1 + DICE.nextInt(3)).text.toString();
            if (text.length() <= 40) checkText(changed(text));
        }
        int held = 0;
        for (int i = 0; i < 40000; i++) {
            Made made = new Made(DICE.nextInt(4));
            if (made.text.length() <= 40) held += checkHolds(made);
        }
        CHECKS.holds("rules of both sorts were made", held > 1000);
        checkOtherBytes();
        CHECKS.end("RulesTest");
    }

    private static String randomText() {
        StringBuilder text = new StringBuilder();
        int length = DICE.nextInt(12);
        for (int i = 0; i < length; i++) {
            text.append(SIGNS.charAt(DICE.nextInt(SIGNS.length())));
        }
        return text.toString();
    }

    private static String changed(String text) {
        StringBuilder changed = new StringBuilder(text);
        int at = DICE.nextInt(text.length());
        char sign = SIGNS.charAt(DICE.nextInt(SIGNS.length()));
        switch (DICE.nextInt(4)) {
            case 0: changed.setCharAt(at, sign); break;
            case 1: changed.deleteCharAt(at); break;
            case 2: if (text.length() < 40) changed.insert(at, sign); break;
            default: changed.setLength(at); break;
        }
        return changed.toString();
    }

    private static void checkText(String text) {
        MilkFirst x = new MilkFirst();
        int fault = faultOf(text);
        CHECKS.due("rule " + text, Checks.rule(x, text), fault < 0 ? 0 : -20 - fault);
        CHECKS.due("tape after " + text, x.count(4), 0);
        CHECKS.due("rules after " + text, x.count(1), fault < 0 ? 1 : 0);
    }

    /** Every byte that is no sign of the language, at the start and behind a whole text. */
    private static void checkOtherBytes() {
        for (int sign = 0; sign < 256; sign++) {
            if (SIGNS.indexOf((char) sign) >= 0) continue;
            MilkFirst x = new MilkFirst();
            CHECKS.due("rule of byte " + sign, Checks.rule(x, (char) sign + "=1"), -20);
            CHECKS.due("rule up to byte " + sign, Checks.rule(x, "r=1" + (char) sign), -23);
            CHECKS.due("rule with byte " + sign, Checks.rule(x, "r" + (char) sign + "1"), -21);
        }
    }

    /** -1, if there is none. */
    private static int faultOf(String text) {
        ArrayDeque<Character> open = new ArrayDeque<>();
        // A TEST is due (t), a UNIT is due (u), behind a digit (d), behind a UNIT (e), behind a ")" (c).
        char state = 't';
        boolean rightSide = false;
        for (int i = 0; i < text.length(); i++) {
            char sign = text.charAt(i);
            boolean unit = "rwsnkp".indexOf(sign) >= 0;
            boolean digit = sign >= '0' && sign <= '9';
            boolean behindTest = state == 'c' || rightSide && (state == 'd' || state == 'e');
            if (state == 't' && (sign == '!' || sign == '(')) {
                if (open.size() == 4) return i;
                open.push(sign);
            } else if ((state == 't' || state == 'u') && (unit || digit)) {
                if (state == 't') rightSide = false;
                state = unit ? 'e' : 'd';
            } else if (state == 'd' && digit) {
                state = 'e';
            } else if ((state == 'd' || state == 'e') && "+-*".indexOf(sign) >= 0) {
                state = 'u';
            } else if ((state == 'd' || state == 'e') && !rightSide && "<=>".indexOf(sign) >= 0) {
                rightSide = true;
                state = 'u';
            } else if (behindTest && (sign == '&' || sign == '|')) {
                endDenials(open);
                state = 't';
            } else if (behindTest && sign == ')') {
                endDenials(open);
                if (open.isEmpty()) return i;
                open.pop();
                state = 'c';
            } else {
                return i;
            }
        }
        endDenials(open);
        boolean whole = state == 'c' || rightSide && (state == 'd' || state == 'e');
        return whole && open.isEmpty() ? -1 : text.length();
    }

    private static void endDenials(ArrayDeque<Character> open) {
        while (!open.isEmpty() && open.peek() == '!') {
            open.pop();
        }
    }

    private static int checkHolds(Made made) {
        MilkFirst x = new MilkFirst();
        String text = made.text.toString();
        CHECKS.due("rule " + text, Checks.rule(x, text), 0);
        int[] seen = new int[2];
        for (int plan = 0; plan < SHAPES.length; plan++) {
            int[] shape = SHAPES[plan];
            x.plan(shape[0], shape[1], shape[2]);
            int size = x.size(plan);
            for (int right = 0; right <= size; right++) {
                long[] values = {right, size - right, size, shape[1], shape[2], shape[0]};
                int due = made.holds(values) ? 1 : 0;
                seen[due] = 1;
                CHECKS.due("believes " + text + " " + plan + " " + right, x.believes(0, plan, right), due);
            }
        }
        return seen[0] & seen[1];
    }

    /** A text that is made together with what it means. */
    private static final class Made {
        final StringBuilder text = new StringBuilder();
        private final Node root;

        Made(int depth) {
            root = or(depth);
        }

        boolean holds(long[] values) {
            return root.value(values) == 1;
        }

        private Node or(int depth) {
            Node made = and(depth);
            while (DICE.nextInt(3) == 0) {
                text.append('|');
                made = new Node('|', made, and(depth));
            }
            return made;
        }

        private Node and(int depth) {
            Node made = test(depth);
            while (DICE.nextInt(3) == 0) {
                text.append('&');
                made = new Node('&', made, test(depth));
            }
            return made;
        }

        private Node test(int depth) {
            int sort = depth > 0 ? DICE.nextInt(4) : 3;
            if (sort == 0) {
                text.append('!');
                return new Node('!', test(depth - 1), null);
            }
            if (sort == 1) {
                text.append('(');
                Node made = or(depth - 1);
                text.append(')');
                return made;
            }
            Node left = sum();
            char by = "<=>".charAt(DICE.nextInt(3));
            text.append(by);
            return new Node(by, left, sum());
        }

        private Node sum() {
            Node made = unit();
            while (DICE.nextInt(2) == 0) {
                char by = "+-*".charAt(DICE.nextInt(3));
                text.append(by);
                made = new Node(by, made, unit());
            }
            return made;
        }

        private Node unit() {
            int letter = DICE.nextInt(10);
            if (letter < 6) {
                text.append("rwsnkp".charAt(letter));
                return new Node('v', letter);
            }
            int number = DICE.nextInt(4) == 0 ? DICE.nextInt(100) : DICE.nextInt(10);
            if (number < 10 && DICE.nextInt(5) == 0) text.append('0');
            text.append(number);
            return new Node('#', number);
        }
    }

    private static final class Node {
        private final char by;
        private final int number;
        private final Node left;
        private final Node right;

        Node(char by, int number) {
            this.by = by;
            this.number = number;
            left = null;
            right = null;
        }

        Node(char by, Node left, Node right) {
            this.by = by;
            this.number = 0;
            this.left = left;
            this.right = right;
        }

        long value(long[] values) {
            switch (by) {
                case 'v': return values[number];
                case '#': return number;
                case '!': return left.value(values) == 1 ? 0 : 1;
                case '|': return left.value(values) == 1 || right.value(values) == 1 ? 1 : 0;
                case '&': return left.value(values) == 1 && right.value(values) == 1 ? 1 : 0;
                case '<': return left.value(values) < right.value(values) ? 1 : 0;
                case '=': return left.value(values) == right.value(values) ? 1 : 0;
                case '>': return left.value(values) > right.value(values) ? 1 : 0;
                case '+': return left.value(values) + right.value(values);
                case '-': return left.value(values) - right.value(values);
                default: return left.value(values) * right.value(values);
            }
        }
    }
}
