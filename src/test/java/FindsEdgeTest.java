/** What FITS, ROWS, FINDS and PROOF, the document's second and third part, at the edges: each sentence by itself. */
public final class FindsEdgeTest extends Edges {
    public static void main(String[] args) {
        hold(FindsEdgeTest.class, args);
    }

    @Says("An ACT FITS a STEP, if it has its KIND and what its CONDS tell")
    private static void fits() {
        int[] a = act(3, 30, 30, 15, 5);
        String[] all = {"kind 3", "kind 3 who 30", "kind 3 what 30", "kind 3 where 15", "kind 3 who 30 what 30 where 15"};
        for (String step : all) {
            due(1, () -> finds("by who;" + step, 9, a));
        }
        String[] none = {"kind 2", "kind 4", "kind 3 who 29", "kind 3 what 29", "kind 3 where 14",
            "kind 3 who 0 what 30 where 15", "kind 3 who 30 what 0 where 15", "kind 3 who 30 what 30 where 0"};
        for (String step : none) {
            due(0, () -> finds("by who;" + step, 9, a));
        }
        // 0 is a value as any other
        int[] zero = act(0, 0, 0, 0, 0);
        due(1, () -> finds("by who;kind 0 who 0 what 0 where 0", 0, zero));
        dueAll(0, () -> finds("by who;kind 0 who 0", 5, act(0, 1, 0, 0, 0)),
            () -> finds("by who;kind 0 what 0", 5, act(0, 0, 1, 0, 0)),
            () -> finds("by who;kind 0 where 0", 5, act(0, 0, 0, 1, 0)));
    }

    @Says("if first stands there, it fits just if no ACT that is KNOWN then, of the same KIND, WHO and WHAT,"
        + " has a lesser TICK")
    private static void fitsFirst() {
        String text = "by where;kind 1 where 9 first";
        int[] late = act(1, 2, 3, 9, 20);
        due(1, () -> finds(text, 50, late));
        due(0, () -> finds(text, 50, late, act(1, 2, 3, 8, 19)));
        due(0, () -> finds(text, 50, late, act(1, 2, 3, 8, 0)));
        due(1, () -> finds(text, 50, late, act(1, 2, 3, 8, 20)));
        due(1, () -> finds(text, 50, late, act(1, 2, 3, 8, 21)));
        due(1, () -> finds(text, 50, late, act(0, 2, 3, 8, 19)));
        due(1, () -> finds(text, 50, late, act(1, 1, 3, 8, 19)));
        due(1, () -> finds(text, 50, late, act(1, 2, 2, 8, 19)));
        due(2, () -> finds(text, 50, late, act(1, 2, 4, 9, 20), act(1, 2, 3, 9, 30)));
        LogHunt x = with(50, late);
        int q = Check.ask(x, text);
        x.ticks(1);
        x.act(1, 2, 3, 8, 19);
        due(1, () -> x.finds(q, 50));
        due(0, () -> x.finds(q, 51));
    }

    @Says("by the ACTS KNOWN at K alone")
    private static void knownAlone() {
        LogHunt x = with(50, act(2, 1, 1, 1, 20));
        int row = Check.ask(x, "by who;kind 1;kind 2");
        int between = Check.ask(x, "by who;kind 1;not kind 3;kind 2");
        int behind = Check.ask(x, "by who;kind 2;not kind 4 within 5");
        int spread = Check.ask(x, "by who;kind 2;spread what 2 within 20");
        x.ticks(1);
        x.act(1, 1, 1, 1, 10);
        x.ticks(1);
        tell(x, act(3, 1, 1, 1, 15), act(4, 1, 1, 1, 25), act(2, 1, 2, 1, 20));
        int[][] dues = {{50, 0, 0, 1, 0}, {51, 1, 1, 1, 0}, {52, 2, 0, 0, 2}, {50, 0, 0, 1, 0}, {51, 1, 1, 1, 0}};
        for (int[] d : dues) {
            due(d[1], () -> x.finds(row, d[0]));
            due(d[2], () -> x.finds(between, d[0]));
            due(d[3], () -> x.finds(behind, d[0]));
            due(d[4], () -> x.finds(spread, d[0]));
        }
        // of two told one tick apart, the second alone
        String[] texts = {"kind 1;kind 2", "kind 2;not kind 3 within 5", "kind 2;spread what 2 within 9", "kind 2 where 9 first"};
        int[][] late = {{1, 1, 1, 1, 10}, {3, 1, 1, 1, 25}, {2, 1, 2, 9, 12}, {2, 1, 1, 1, 10}};
        int[][] counts = {{0, 1}, {1, 0}, {0, 1}, {1, 0}};
        for (int i = 0; i < texts.length; i++) {
            LogHunt y = with(50, act(2, 1, 1, 9, 20));
            Check.ask(y, "by who;" + texts[i]);
            y.ticks(1);
            tell(y, late[i]);
            due(counts[i][0], () -> y.finds(0, 50));
            due(counts[i][1], () -> y.finds(0, 51));
            due(counts[i][0], () -> y.finds(0, 50));
        }
    }

    @Says("a ROW is an ACT for each STEP without not, in order, each FITS its STEP")
    private static void rowInOrder() {
        String text = "by who;kind 1;kind 2;kind 3";
        due(1, () -> finds(text, 50, act(1, 1, 0, 0, 1), act(2, 1, 0, 0, 2), act(3, 1, 0, 0, 3)));
        due(1, () -> finds(text, 50, act(3, 1, 0, 0, 3), act(2, 1, 0, 0, 2), act(1, 1, 0, 0, 1)));
        due(0, () -> finds(text, 50, act(1, 1, 0, 0, 1), act(3, 1, 0, 0, 2), act(2, 1, 0, 0, 3)));
        due(0, () -> finds(text, 50, act(2, 1, 0, 0, 1), act(1, 1, 0, 0, 2), act(3, 1, 0, 0, 3)));
        due(0, () -> finds(text, 50, act(2, 1, 0, 0, 2), act(3, 1, 0, 0, 3)));
        due(0, () -> finds(text, 50, act(1, 1, 0, 0, 1), act(3, 1, 0, 0, 3)));
        due(0, () -> finds(text, 50, act(1, 1, 0, 0, 1), act(2, 1, 0, 0, 2)));
        due(0, () -> finds(text, 50));
        // one ACT stands for one STEP alone
        due(0, () -> finds("by who;kind 1;kind 1", 50, act(1, 1, 0, 0, 1)));
        due(1, () -> finds("by who;kind 1;kind 1", 50, act(1, 1, 0, 0, 1), act(1, 1, 0, 0, 2)));
        String six = "by who" + ";kind 1".repeat(6);
        int[][] acts = new int[6][];
        for (int i = 0; i < 6; i++) acts[i] = act(1, 1, 0, 0, i);
        due(1, () -> finds(six, 50, acts));
        due(0, () -> finds(six, 50, java.util.Arrays.copyOf(acts, 5)));
    }

    @Says("all have one value in the FIELD of by")
    private static void oneValueOfBy() {
        int[] start = act(1, 1, 2, 3, 10);
        int[] mid = act(2, 4, 4, 4, 15);
        dueAll(1, () -> finds("by who;kind 1;kind 2", 50, start, act(2, 1, 9, 9, 20)),
            () -> finds("by what;kind 1;kind 2", 50, start, act(2, 9, 2, 9, 20)),
            () -> finds("by where;kind 1;kind 2", 50, start, act(2, 9, 9, 3, 20)));
        dueAll(0, () -> finds("by who;kind 1;kind 2", 50, start, act(2, 9, 2, 3, 20)),
            () -> finds("by what;kind 1;kind 2", 50, start, act(2, 1, 9, 3, 20)),
            () -> finds("by where;kind 1;kind 2", 50, start, act(2, 1, 2, 9, 20)),
            () -> finds("by who;kind 1;kind 2;kind 3", 50, start, mid, act(3, 1, 2, 3, 20)));
        // the least and the greatest value
        for (String by : new String[] {"who", "what", "where"}) {
            String text = "by " + by + ";kind 1;kind 2";
            due(2, () -> finds(text, 50, act(1, 0, 0, 0, 1), act(2, 0, 0, 0, 2), act(1, 30, 30, 15, 1), act(2, 30, 30, 15, 2)));
            due(0, () -> finds(text, 50, act(1, 0, 0, 0, 1), act(2, 30, 30, 15, 2)));
        }
    }

    @Says("each has a greater TICK than the one before")
    private static void greaterTick() {
        for (int tick : new int[] {0, 9, 10}) {
            due(0, () -> finds("by who;kind 1;kind 2", 50, act(1, 1, 0, 0, 10), act(2, 1, 0, 0, tick)));
        }
        due(1, () -> finds("by who;kind 1;kind 2", 50, act(1, 1, 0, 0, 10), act(2, 1, 0, 0, 11)));
        due(1, () -> finds("by who;kind 1;kind 2", 1000000, act(1, 1, 0, 0, 0), act(2, 1, 0, 0, 1000000)));
        // of one TICK, neither order of their numbers makes a ROW
        due(0, () -> finds("by who;kind 1;kind 2", 50, act(2, 1, 0, 0, 10), act(1, 1, 0, 0, 10)));
        due(0, () -> finds("by who;kind 1;kind 1", 50, act(1, 1, 0, 0, 10), act(1, 1, 1, 0, 10), act(1, 1, 2, 0, 10)));
        due(0, () -> finds("by who;kind 1;kind 2;kind 3", 50, act(1, 1, 0, 0, 9), act(2, 1, 0, 0, 10), act(3, 1, 0, 0, 10)));
    }

    @Says("by within at most, where that is told")
    private static void withinAtMost() {
        int[][] dues = {{1, 11, 1}, {1, 12, 0}, {15, 25, 1}, {15, 26, 0}, {100000, 100010, 1}, {100000, 100011, 0}};
        for (int[] d : dues) {
            due(d[2], () -> finds("by who;kind 1;kind 2 within " + d[0], 200000, act(1, 1, 0, 0, 10), act(2, 1, 0, 0, d[1])));
            // within is told of the STEP without not before, not of the first one, nor of a not
            due(d[2], () -> finds("by who;kind 3;kind 1;not kind 7;kind 2 within " + d[0], 200000, act(3, 1, 0, 0, 5),
                act(1, 1, 0, 0, 10), act(2, 1, 0, 0, d[1])));
        }
        // where none is told, the widest gap is good
        due(1, () -> finds("by who;kind 1;kind 2", 1000000, act(1, 1, 0, 0, 0), act(2, 1, 0, 0, 1000000)));
    }

    @Says("no ACT with that value FITS a STEP with not, and has a TICK between (not as great as one of both)"
        + " those of the ACTS for the STEPS without not before and behind it")
    private static void notBetween() {
        String text = "by who;kind 1;not kind 3;kind 2";
        int[] start = act(1, 1, 0, 0, 10);
        int[] end = act(2, 1, 0, 0, 20);
        int[][] dues = {{0, 1}, {9, 1}, {10, 1}, {11, 0}, {15, 0}, {19, 0}, {20, 1}, {21, 1}};
        for (int[] d : dues) {
            due(d[1], () -> finds(text, 50, start, end, act(3, 1, 0, 0, d[0])));
            due(1, () -> finds(text, 50, start, end, act(3, 2, 0, 0, d[0])));
            due(1, () -> finds(text, 50, start, end, act(4, 1, 0, 0, d[0])));
        }
        // nothing is between two ticks side by side
        due(1, () -> finds(text, 50, start, act(2, 1, 0, 0, 11), act(3, 1, 0, 0, 10), act(3, 1, 0, 0, 11)));
        due(0, () -> finds("by who;kind 1;not kind 3 what 4;kind 2", 50, start, end, act(3, 1, 4, 0, 15)));
        due(1, () -> finds("by who;kind 1;not kind 3 what 4;kind 2", 50, start, end, act(3, 1, 5, 0, 15)));
        // of several nots each counts
        for (int kind = 3; kind < 6; kind++) {
            int k = kind;
            due(0, () -> finds("by who;kind 1;not kind 3;not kind 4;not kind 5;kind 2", 50, start, end, act(k, 1, 0, 0, 15)));
        }
        // a ROW's own ACTS disturb it as others do
        due(1, () -> finds("by who;kind 1;not kind 1;kind 2", 50, start, end));
        due(0, () -> finds("by who;kind 1 what 0;not kind 1;kind 2", 50, start, end, act(1, 1, 1, 0, 15)));
        // each not looks at its own two STEPS
        int[] third = act(4, 1, 0, 0, 30);
        due(1, () -> finds("by who;kind 1;not kind 3;kind 2;kind 4", 50, start, end, third, act(3, 1, 0, 0, 25)));
        due(0, () -> finds("by who;kind 1;kind 2;not kind 3;kind 4", 50, start, end, third, act(3, 1, 0, 0, 25)));
        due(0, () -> finds("by who;kind 1;not kind 3;kind 2;kind 4", 50, start, end, third, act(3, 1, 0, 0, 15)));
        due(1, () -> finds("by who;kind 1;kind 2;not kind 3;kind 4", 50, start, end, third, act(3, 1, 0, 0, 15)));
    }

    @Says("no such ACT has a TICK above the last ACT's, by its within at most")
    private static void notBehind() {
        String text = "by who;kind 1;not kind 3 within 5";
        int[] end = act(1, 1, 0, 0, 10);
        int[][] dues = {{0, 1}, {9, 1}, {10, 1}, {11, 0}, {15, 0}, {16, 1}, {50, 1}};
        for (int[] d : dues) {
            due(d[1], () -> finds(text, 50, end, act(3, 1, 0, 0, d[0])));
            due(1, () -> finds(text, 50, end, act(3, 2, 0, 0, d[0])));
            due(1, () -> finds(text, 50, end, act(2, 1, 0, 0, d[0])));
            due(d[1], () -> finds("by who;kind 2;kind 1;not kind 3 within 5", 50, act(2, 1, 0, 0, 8), end, act(3, 1, 0, 0, d[0])));
        }
        due(0, () -> finds("by who;kind 1;not kind 3 within 1", 50, end, act(3, 1, 0, 0, 11)));
        due(1, () -> finds("by who;kind 1;not kind 3 within 1", 50, end, act(3, 1, 0, 0, 12)));
        due(0, () -> finds("by who;kind 1;not kind 3 within 100000", 200000, end, act(3, 1, 0, 0, 100010)));
        due(1, () -> finds("by who;kind 1;not kind 3 within 100000", 200000, end, act(3, 1, 0, 0, 100011)));
        // of several, each by its own within
        String two = "by who;kind 1;not kind 3 within 5;not kind 4 within 9";
        due(0, () -> finds(two, 50, end, act(4, 1, 0, 0, 19)));
        due(1, () -> finds(two, 50, end, act(4, 1, 0, 0, 20)));
        due(1, () -> finds(two, 50, end, act(3, 1, 0, 0, 19)));
        due(0, () -> finds(two, 50, end, act(3, 1, 0, 0, 15)));
        String five = "by who;kind 1;not kind 3 within 5;not kind 4 within 5;not kind 5 within 5;not kind 6 within 5;not kind 7 within 5";
        due(1, () -> finds(five, 50, end));
        for (int kind = 3; kind < 8; kind++) {
            int k = kind;
            due(0, () -> finds(five, 50, end, act(k, 1, 0, 0, 15)));
            due(1, () -> finds(five, 50, end, act(k, 1, 0, 0, 16)));
        }
        // a FIND of the same KIND disturbs the one before it
        due(1, () -> finds("by who;kind 1;not kind 1 within 5", 50, end, act(1, 1, 0, 0, 15)));
        due(2, () -> finds("by who;kind 1;not kind 1 within 5", 50, end, act(1, 1, 0, 0, 16)));
        due(2, () -> finds("by who;kind 1;not kind 1 within 5", 50, end, act(1, 1, 1, 0, 10)));
    }

    @Says("and K is the last ACT's TICK and that within, or later")
    private static void notBehindInTime() {
        LogHunt x = with(10, act(1, 1, 0, 0, 10));
        int q = Check.ask(x, "by who;kind 1;not kind 3 within 5");
        int two = Check.ask(x, "by who;kind 1;not kind 3 within 5;not kind 4 within 9");
        int turned = Check.ask(x, "by who;kind 1;not kind 3 within 9;not kind 4 within 5");
        int[][] dues = {{10, 0, 0}, {14, 0, 0}, {15, 1, 0}, {16, 1, 0}, {18, 1, 0}, {19, 1, 1}, {20, 1, 1}, {HIGH, 1, 1}};
        for (int[] d : dues) {
            due(d[1], () -> x.finds(q, d[0]));
            due(d[2], () -> x.finds(two, d[0]));
            due(d[2], () -> x.finds(turned, d[0]));
        }
        // NOW counts where NOW is asked
        due(0, () -> x.count(7));
        x.ticks(4);
        due(0, () -> x.count(7));
        x.ticks(1);
        due(1, () -> x.count(7));
        // an ACT at the last tick of all
        LogHunt y = with(1000000, act(1, 1, 0, 0, 1000000));
        int r = Check.ask(y, "by who;kind 1;not kind 3 within 100000");
        due(0, () -> y.finds(r, 1000000));
        due(0, () -> y.finds(r, 1099999));
        due(1, () -> y.finds(r, 1100000));
    }

    @Says("of the ACTS that FIT the last STEP without not, with that value")
    private static void spreadOverFitting() {
        String text = "by who;kind 1;kind 2;not kind 5 within 1;spread what 2 within 100";
        int[] start = act(1, 1, 7, 0, 10);
        int[] end = act(2, 1, 0, 0, 20);
        due(0, () -> finds(text, 50, start, end));
        due(1, () -> finds(text, 50, start, end, act(2, 1, 1, 0, 5)));
        due(0, () -> finds(text, 50, start, end, act(1, 1, 1, 0, 15)));
        due(0, () -> finds(text, 50, start, end, act(5, 1, 1, 0, 15)));
        due(0, () -> finds(text, 50, start, end, act(2, 2, 1, 0, 15)));
        String cond = "by who;kind 2 where 0;spread what 2 within 100";
        due(0, () -> finds(cond, 50, end, act(2, 1, 1, 1, 19)));
        due(1, () -> finds(cond, 50, end, act(2, 1, 1, 0, 19)));
        String first = "by who;kind 2 first;spread what 2 within 10";
        due(1, () -> finds(first, 50, end, act(2, 1, 1, 0, 19)));
        due(0, () -> finds(first, 50, end, act(2, 1, 1, 0, 18), act(2, 1, 1, 1, 9)));
    }

    @Says("and with a TICK not above the last ACT's, and above it less within of spread")
    private static void spreadInTime() {
        int[] end = act(1, 1, 0, 0, 20);
        int[][] dues = {{0, 0}, {10, 0}, {11, 1}, {19, 1}};
        for (int[] d : dues) {
            due(d[1], () -> finds("by who;kind 1;spread what 2 within 10", 50, end, act(1, 1, 1, 0, d[0])));
        }
        // one at the same TICK counts for both, a later one for itself alone
        due(2, () -> finds("by who;kind 1;spread what 2 within 10", 50, end, act(1, 1, 1, 0, 20)));
        due(2, () -> finds("by who;kind 1;spread what 2 within 1", 50, end, act(1, 1, 1, 0, 20)));
        due(0, () -> finds("by who;kind 1;spread what 2 within 1", 50, end, act(1, 1, 1, 0, 19)));
        due(1, () -> finds("by who;kind 1;spread what 2 within 10", 50, end, act(1, 1, 1, 0, 21)));
        due(1, () -> finds("by who;kind 1;spread what 2 within 10", 50, end, act(1, 1, 1, 0, 29)));
        due(0, () -> finds("by who;kind 1;spread what 2 within 10", 50, end, act(1, 1, 1, 0, 30)));
        due(1, () -> finds("by who;kind 1;spread what 2 within 100000", 100000, act(1, 1, 1, 0, 0), act(1, 1, 0, 0, 99999)));
        due(0, () -> finds("by who;kind 1;spread what 2 within 100000", 100000, act(1, 1, 1, 0, 0), act(1, 1, 0, 0, 100000)));
        due(2, () -> finds("by who;kind 1;spread what 2 within 100000", 0, act(1, 1, 1, 0, 0), act(1, 1, 0, 0, 0)));
    }

    @Says("there are as many unlike values, in the FIELD of spread, as its NUMBER, or more")
    private static void spreadAsMany() {
        int[][] acts = {act(1, 1, 0, 5, 10), act(1, 1, 1, 5, 11), act(1, 1, 1, 6, 12), act(1, 1, 2, 6, 13)};
        int[][] dues = {{2, 3}, {3, 1}, {4, 0}};
        for (int[] d : dues) {
            due(d[1], () -> finds("by who;kind 1;spread what " + d[0] + " within 50", 50, acts));
        }
        due(2, () -> finds("by who;kind 1;spread where 2 within 50", 50, acts));
        due(0, () -> finds("by who;kind 1;spread where 3 within 50", 50, acts));
        due(0, () -> finds("by who;kind 1;spread who 2 within 50", 50, acts));
        // the most that can be told, and one less than it
        for (String field : new String[] {"who", "what"}) {
            int[][] many = new int[31][];
            for (int i = 0; i < 31; i++) many[i] = field.equals("who") ? act(1, i, 0, 0, i) : act(1, 0, i, 0, i);
            due(2, () -> finds("by where;kind 1;spread " + field + " 30 within 50", 50, many));
            due(0, () -> finds("by where;kind 1;spread " + field + " 30 within 29", 50, many));
            due(2, () -> finds("by where;kind 1;spread " + field + " 30 within 30", 50, many));
        }
        int[][] places = new int[16][];
        for (int i = 0; i < 16; i++) places[i] = act(1, 0, 0, i, i);
        due(1, () -> finds("by who;kind 1;spread where 16 within 50", 50, places));
        due(0, () -> finds("by who;kind 1;spread where 17 within 50", 50, places));
    }

    @Says("An ACT that ends a ROW is a FIND")
    private static void findOnce() {
        due(1, () -> finds("by who;kind 1;kind 2", 50, act(1, 1, 0, 0, 1), act(1, 1, 0, 0, 2), act(1, 1, 0, 0, 3), act(2, 1, 0, 0, 9)));
        due(2, () -> finds("by who;kind 1;kind 2", 50, act(1, 1, 0, 0, 1), act(2, 1, 0, 0, 8), act(2, 1, 0, 0, 9)));
        due(3, () -> finds("by who;kind 1", 50, act(1, 1, 0, 0, 1), act(1, 1, 0, 0, 2), act(1, 1, 0, 0, 3)));
        int[][] most = new int[250][];
        for (int i = 0; i < 250; i++) most[i] = act(1, 1, 1, 1, i);
        due(250, () -> finds("by who;kind 1", 300, most));
        due(249, () -> finds("by who;kind 1;kind 1", 300, most));
        due(250, () -> finds("by who;kind 1;not kind 2 within 1", 300, most));
        due(1, () -> finds("by who;kind 1;not kind 1 within 1", 300, most));
    }

    @Says("FINDS lie by TICK, then by the ACT's number.")
    private static void findsInOrder() {
        LogHunt x = with(50, act(1, 9, 0, 0, 30), act(1, 1, 0, 0, 30), act(1, 5, 0, 0, 10), act(1, 4, 0, 0, 40),
            act(1, 3, 0, 0, 10), act(1, 9, 1, 0, 30));
        int q = Check.ask(x, "by who;kind 1");
        int behind = Check.ask(x, "by who;kind 1;not kind 2 within 5");
        int[] order = {2, 4, 0, 1, 5, 3, NONE};
        for (int i = 0; i < order.length; i++) {
            int n = i;
            due(order[n], () -> x.found(q, 50, n));
            due(order[n], () -> x.found(behind, 50, n));
        }
        // they close up where one of them is none
        x.act(2, 9, 0, 0, 31);
        int[] fewer = {2, 4, 1, 3, NONE, NONE, NONE};
        x.act(2, 5, 0, 0, 16);
        for (int i = 0; i < order.length; i++) {
            int n = i;
            due(order[n], () -> x.found(q, 50, n));
            due(fewer[n], () -> x.found(behind, 50, n));
        }
    }

    @Says("of all its ROWS that in which the ACT before the last one is the latest"
        + " (of the greatest TICK, of several the greatest number)")
    private static void proofIsLatest() {
        // number 2 has the greatest TICK, 4 the greatest number of it, 5 the greatest number at all
        LogHunt x = with(50, act(1, 1, 0, 0, 10), act(2, 1, 0, 0, 40), act(1, 1, 0, 0, 30), act(1, 1, 0, 0, 20),
            act(1, 1, 1, 0, 30), act(1, 1, 1, 0, 20), act(1, 1, 2, 0, 40), act(1, 1, 3, 0, 45));
        int q = Check.ask(x, "by who;kind 1;kind 2");
        due(4, () -> x.proof(q, 50, 0, 0));
        due(1, () -> x.proof(q, 50, 0, 1));
        int near = Check.ask(x, "by who;kind 1;kind 2 within 20");
        due(4, () -> x.proof(near, 50, 0, 0));
        int zero = Check.ask(x, "by who;kind 1 what 0;kind 2");
        due(2, () -> x.proof(zero, 50, 0, 0));
        int other = Check.ask(x, "by who;kind 1 what 1;kind 2");
        due(4, () -> x.proof(other, 50, 0, 0));
        // an ACT that is later, but ends no ROW of the STEPS before, proves nothing
        LogHunt y = with(50, act(1, 1, 0, 0, 10), act(2, 1, 0, 0, 15), act(2, 1, 0, 0, 30), act(3, 1, 0, 0, 40));
        int r = Check.ask(y, "by who;kind 1;kind 2 within 5;kind 3");
        due(1, () -> y.proof(r, 50, 0, 1));
        due(0, () -> y.proof(r, 50, 0, 0));
    }

    @Says("of these that in which the one before that is the latest, and so on")
    private static void proofAndSoOn() {
        LogHunt x = with(90, act(1, 1, 0, 0, 1), act(1, 1, 1, 0, 5), act(2, 1, 0, 0, 6), act(1, 1, 2, 0, 8),
            act(2, 1, 1, 0, 10), act(3, 1, 0, 0, 11), act(1, 1, 3, 0, 12), act(2, 1, 2, 0, 13), act(4, 1, 0, 0, 20));
        int q = Check.ask(x, "by who;kind 1;kind 2;kind 3;kind 4");
        int[] row = {3, 4, 5, 8, NONE};
        for (int i = 0; i < row.length; i++) {
            int n = i;
            due(row[n], () -> x.proof(q, 90, 0, n));
        }
        // the later ones settle first, though an earlier one could then be later
        int short2 = Check.ask(x, "by who;kind 1 what 0;kind 2;kind 4");
        due(0, () -> x.proof(short2, 90, 0, 0));
        due(7, () -> x.proof(short2, 90, 0, 1));
        LogHunt y = with(90, act(1, 1, 0, 0, 10), act(1, 1, 1, 0, 10), act(2, 1, 0, 0, 20), act(2, 1, 1, 0, 20), act(3, 1, 0, 0, 30));
        int r = Check.ask(y, "by who;kind 1;kind 2;kind 3");
        due(1, () -> y.proof(r, 90, 0, 0));
        due(3, () -> y.proof(r, 90, 0, 1));
        due(4, () -> y.proof(r, 90, 0, 2));
    }
}
