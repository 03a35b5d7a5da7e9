import java.util.Random;

/** Random texts of QUESTIONS: right ones, and ones with a fault somewhere. */
final class Texts {
    private static final String[] FIELDS = {"who", "what", "where"};
    private static final String[] BITS = {"by", "who", "what", "where", "kind", "not", "first", "within", "spread",
        ";", "0", "1", "2", "7", "8", "15", "16", "30", "31", "100000", "100001", "999999", "0000001", "000001",
        "x", "kin", "kinds", "Kind", ",", "\t", "\u00ff", "\u0000", " ", "  ", ";;"};

    private final Random dice;
    private final int kinds, span;
    private final int[] bounds;

    Texts(Random dice, int kinds, int people, int things, int places, int span) {
        this.dice = dice;
        this.kinds = kinds;
        this.span = span;
        bounds = new int[] {people, things, places};
    }

    String text() {
        StringBuilder t = new StringBuilder();
        blanks(t);
        t.append("by ").append(FIELDS[dice.nextInt(3)]);
        int steps = 1 + dice.nextInt(dice.nextInt(4) == 0 ? 6 : 3);
        int plain = 1 + dice.nextInt(steps);
        boolean[] not = new boolean[steps];
        for (int i = 1; i < steps; i++) not[i] = i >= plain ? dice.nextInt(3) > 0 : dice.nextInt(3) == 0;
        int last = 0;
        for (int i = 0; i < steps; i++) if (!not[i]) last = i;
        for (int i = 0; i < steps; i++) {
            sign(t);
            step(t, not[i], i == 0, i > last);
        }
        if (dice.nextInt(4) == 0) {
            sign(t);
            t.append("spread ").append(FIELDS[dice.nextInt(3)]).append(' ').append(2 + dice.nextInt(2));
            t.append(" within ").append(1 + dice.nextInt(2 * span));
        }
        blanks(t);
        return t.toString();
    }

    private void step(StringBuilder t, boolean not, boolean opening, boolean behind) {
        if (not) t.append("not ");
        t.append("kind ").append(dice.nextInt(kinds));
        int start = dice.nextInt(3);
        for (int i = 0; i < 3; i++) {
            int f = (start + i) % 3;
            if (dice.nextInt(8) == 0) t.append(' ').append(FIELDS[f]).append(' ').append(dice.nextInt(bounds[f]));
        }
        if (!not && dice.nextInt(5) == 0) t.append(" first");
        if (not ? behind : !opening && dice.nextInt(2) == 0) {
            t.append(" within ").append(1 + dice.nextInt(dice.nextBoolean() ? 4 : 2 * span));
        }
    }

    private void sign(StringBuilder t) {
        blanks(t);
        t.append(';');
        blanks(t);
    }

    private void blanks(StringBuilder t) {
        for (int i = dice.nextInt(6) - 4; i > 0; i--) t.append(' ');
    }

    /** One to three changes at random places. */
    static String spoil(String text, Random dice) {
        StringBuilder t = new StringBuilder(text);
        for (int i = dice.nextInt(3); i >= 0; i--) {
            int at = dice.nextInt(t.length() + 1);
            switch (dice.nextInt(5)) {
                case 0 -> t.setLength(at);
                case 1 -> t.delete(at, Math.min(t.length(), at + 1 + dice.nextInt(6)));
                case 2 -> t.insert(at, BITS[dice.nextInt(BITS.length)]);
                default -> swapWord(t, at, dice);
            }
        }
        return t.toString();
    }

    /** The word, NUMBER or sign at a place becomes another. */
    private static void swapWord(StringBuilder t, int at, Random dice) {
        int from = at, to = at;
        while (from > 0 && Character.isLetterOrDigit(t.charAt(from - 1))) from--;
        while (to < t.length() && Character.isLetterOrDigit(t.charAt(to))) to++;
        if (from == to && to < t.length()) to++;
        t.replace(from, to, BITS[dice.nextInt(BITS.length)]);
    }
}
