import java.util.Arrays;

/** EXEMPT, CASES, COST, WIDEST, HUNTERS and what throws, the end of the document's terms: each sentence by itself. */
public final class CasesEdgeTest extends Edges {
    public static void main(String[] args) {
        hold(CasesEdgeTest.class, args);
    }

    @Says("of a QUESTION a WHO, up to a TICK (at most 40 are told)")
    private static void atMost40() {
        LogHunt x = with(9, act(1, 5, 0, 0, 3), act(1, 6, 0, 0, 3));
        int q = Check.ask(x, "by who;kind 1");
        int r = Check.ask(x, "by who;kind 1");
        for (int i = 1; i <= 39; i++) {
            int n = i;
            due(n, () -> x.exempt(n % 2 == 0 ? q : r, 7, n));
        }
        due(40, () -> x.exempt(q, 5, 9));
        due(NONE, () -> x.exempt(q, 6, 9));
        due(NONE, () -> x.exempt(r, 6, 9));
        // one that is told again is no longer told, either
        due(NONE, () -> x.exempt(q, 5, 9));
        due(40, () -> x.count(4));
        due(1, () -> x.spared(q, 9));
        due(0, () -> x.spared(r, 9));
    }

    @Says("a FIND whose ACT has that WHO, and a TICK not above that, is EXEMPT")
    private static void exemptUpToItsTick() {
        LogHunt x = with(50, act(1, 5, 0, 0, 0), act(1, 5, 0, 0, 10), act(1, 5, 0, 0, 11), act(1, 6, 0, 0, 10));
        int q = Check.ask(x, "by what;kind 1");
        int other = Check.ask(x, "by what;kind 1");
        due(0, () -> x.spared(q, 50));
        int[][] told = {{5, 0, 1}, {5, 9, 1}, {5, 10, 2}, {5, 11, 3}, {4, 50, 3}, {6, 9, 3}, {6, 10, 4}};
        for (int[] t : told) {
            x.exempt(q, t[0], t[1]);
            due(t[2], () -> x.spared(q, 50));
        }
        // one with a lesser TICK takes nothing back
        x.exempt(q, 5, 0);
        due(4, () -> x.spared(q, 50));
        due(0, () -> x.spared(other, 50));
        LogHunt y = with(1000000, act(1, 30, 0, 0, 1000000));
        int r = Check.ask(y, "by who;kind 1");
        y.exempt(r, 30, 999999);
        due(0, () -> y.spared(r, 1000000));
        y.exempt(r, 30, 1000000);
        due(1, () -> y.spared(r, 1000000));
    }

    @Says("of all FINDS of all QUESTIONS NOW that are not EXEMPT")
    private static void casesOfAll() {
        LogHunt x = with(50, act(1, 1, 0, 1, 10), act(2, 2, 0, 2, 10), act(3, 3, 0, 3, 50));
        due(0, x::cases);
        int one = Check.ask(x, "by who;kind 1");
        due(1, x::cases);
        int two = Check.ask(x, "by who;kind 2");
        due(2, x::cases);
        int again = Check.ask(x, "by who;kind 2");
        due(2, x::cases);
        due(2, () -> x.joined(again, 1));
        // NOW, one that waits for what is not behind it is no FIND yet
        int waits = Check.ask(x, "by who;kind 3;not kind 4 within 2");
        due(2, x::cases);
        x.ticks(1);
        due(2, x::cases);
        x.ticks(1);
        due(3, x::cases);
        x.exempt(one, 1, 9);
        due(3, x::cases);
        x.exempt(one, 1, 10);
        due(2, x::cases);
        x.exempt(two, 2, 10);
        due(2, x::cases);
        due(1, () -> x.joined(again, 1));
        x.exempt(again, 2, 10);
        due(1, x::cases);
        x.act(4, 3, 0, 0, 51);
        due(0, x::cases);
        due(0, () -> x.joined(waits, 2));
    }

    @Says("two are joined, if their ACTS have one WHO, or one WHERE")
    private static void joinedByWhoOrWhere() {
        int[][] others = {{1, 1, 9, 2, 1}, {1, 2, 9, 1, 1}, {1, 1, 9, 1, 1}, {1, 2, 0, 2, 2}, {1, 2, 9, 2, 2}, {1, 0, 9, 0, 2},
            {2, 1, 9, 2, 1}, {2, 2, 0, 2, 2}};
        for (int[] o : others) {
            LogHunt x = with(50, act(1, 1, 0, 1, 10), act(o[0], o[1], o[2], o[3], 12));
            int q = Check.ask(x, "by what;kind 1");
            Check.ask(x, "by what;kind 2");
            due(o[4], x::cases);
            due(3 - o[4], () -> x.joined(q, 0));
        }
        // the least and the greatest who and where
        LogHunt y = with(50, act(1, 0, 0, 15, 10), act(1, 0, 0, 14, 10), act(1, 30, 0, 0, 10), act(1, 29, 0, 0, 10));
        int q = Check.ask(y, "by who;kind 1");
        due(2, y::cases);
        due(2, () -> y.joined(q, 0));
        due(2, () -> y.joined(q, 3));
        // one ACT that is a FIND of two QUESTIONS is joined to itself
        Check.ask(y, "by who;kind 1 who 0 where 15");
        gap(y, 0);
        due(2, y::cases);
        due(3, () -> y.joined(q, 0));
    }

    @Says("their TICKS are apart by GAP at most")
    private static void apartByGap() {
        for (int[] second : new int[][] {{0, 2}, {2, 0}}) {
            int[][] dues = {{0, 10, 1}, {0, 11, 2}, {1, 11, 1}, {1, 12, 2}, {100, 110, 1}, {100, 111, 2}, {100000, 100010, 1},
                {100000, 100011, 2}};
            for (int[] d : dues) {
                LogHunt x = with(200000, act(1, 0, 0, 0, 10), act(1, second[0], 0, second[1], d[1]));
                Check.ask(x, "by what;kind 1");
                gap(x, d[0]);
                due(d[2], x::cases);
                // told in the other order they are as far apart
                LogHunt y = with(200000, act(1, second[0], 0, second[1], d[1]), act(1, 0, 0, 0, 10));
                Check.ask(y, "by what;kind 1");
                gap(y, d[0]);
                due(d[2], y::cases);
                // nothing of a wider GAP stays
                gap(y, 100000);
                due(d[1] > 100010 ? 2 : 1, y::cases);
                gap(y, d[0]);
                due(d[2], y::cases);
            }
        }
    }

    @Says("(GAP 0 to 100000; 100 at first)")
    private static void gaps() {
        LogHunt x = with(500, act(1, 1, 0, 1, 100), act(1, 1, 0, 2, 200), act(1, 1, 0, 3, 301));
        Check.ask(x, "by who;kind 1");
        due(100, () -> x.count(5));
        due(2, x::cases);
        due("gap", () -> gap(x, 0));
        due(0, () -> x.count(5));
        due("gap", () -> gap(x, 100000));
        dueAll(ARGUMENT, () -> gap(x, -1), () -> gap(x, 100001), () -> gap(x, LOW), () -> gap(x, HIGH));
        due(100000, () -> x.count(5));
        due(1, x::cases);
    }

    @Says("those joined through any others are one CASE")
    private static void throughOthers() {
        // by who, by where, by who: the ends have nothing in common and lie far apart
        LogHunt x = with(900, act(1, 1, 0, 1, 100), act(1, 1, 0, 2, 200), act(1, 2, 0, 2, 300), act(1, 2, 0, 3, 400),
            act(1, 7, 0, 7, 400));
        int q = Check.ask(x, "by what;kind 1");
        due(2, x::cases);
        due(4, () -> x.joined(q, 0));
        due(4, () -> x.joined(q, 3));
        due(1, () -> x.joined(q, 4));
        // a bridge that comes late, and one that is EXEMPT
        x.act(1, 7, 0, 3, 401);
        due(1, x::cases);
        due(6, () -> x.joined(q, 4));
        x.exempt(q, 1, 200);
        due(4, () -> x.joined(q, 4));
        x.exempt(q, 2, 300);
        due(3, () -> x.joined(q, 4));
        // a bridge that is no FIND of this QUESTION, but of another
        LogHunt y = with(900, act(1, 1, 0, 1, 100), act(2, 1, 0, 2, 150), act(1, 2, 0, 2, 200));
        int r = Check.ask(y, "by who;kind 1");
        due(2, y::cases);
        Check.ask(y, "by who;kind 2");
        due(1, y::cases);
        due(3, () -> y.joined(r, 0));
    }

    @Says("the least number of ACTS KNOWN then that FIT one of its STEPS without not")
    private static void costIsLeast() {
        LogHunt x = with(50, act(1, 1, 1, 1, 10), act(1, 1, 1, 2, 20), act(1, 2, 1, 2, 20), act(2, 1, 1, 1, 30),
            act(2, 2, 2, 2, 40), act(3, 1, 1, 1, 1));
        String[] texts = {"kind 1", "kind 1;kind 2", "kind 2;kind 1", "kind 1;kind 7", "kind 7", "kind 1;not kind 3;kind 2",
            "kind 1;not kind 7 within 9", "kind 1 first"};
        int[] costs = {3, 2, 2, 0, 0, 2, 3, 2};
        for (int i = 0; i < texts.length; i++) {
            int n = i;
            int q = Check.ask(x, "by who;" + texts[n]);
            due(costs[n], () -> x.cost(q, 50));
            due(0, () -> x.cost(q, 49));
            due(0, () -> x.cost(q, -1));
            due(0, () -> x.cost(q, LOW));
            due(costs[n], () -> x.cost(q, HIGH));
        }
        // an ACT that is told late, and makes another no longer first
        x.ticks(1);
        x.act(1, 1, 1, 3, 5);
        due(3, () -> x.cost(0, 50));
        due(4, () -> x.cost(0, 51));
        due(2, () -> x.cost(7, 51));
        LogHunt y = with(300);
        for (int i = 0; i < 250; i++) y.act(1, 1, 1, 1, i);
        int q = Check.ask(y, "by who;kind 1;kind 1;kind 1;kind 1;kind 1;kind 1");
        due(250, () -> y.cost(q, 300));
    }

    @Says("of its FINDS at K that FIELD in which they have most unlike values (0 who, 1 what, 2 where; of several the first)")
    private static void widestField() {
        int[][][] acts = {
            {act(1, 1, 1, 1, 1)},
            {act(1, 1, 1, 1, 1), act(1, 2, 1, 1, 1)},
            {act(1, 1, 1, 1, 1), act(1, 1, 2, 1, 1)},
            {act(1, 1, 1, 1, 1), act(1, 1, 1, 2, 1)},
            {act(1, 1, 1, 1, 1), act(1, 2, 2, 1, 1)},
            {act(1, 1, 1, 1, 1), act(1, 2, 1, 2, 1)},
            {act(1, 1, 1, 1, 1), act(1, 1, 2, 2, 1)},
            {act(1, 0, 0, 0, 1), act(1, 30, 30, 15, 1)},
            {act(1, 0, 0, 0, 1), act(1, 30, 30, 15, 1), act(1, 0, 30, 7, 1)},
            {act(1, 0, 0, 0, 1), act(1, 30, 30, 15, 1), act(1, 0, 7, 15, 1)},
            // what ends no ROW does not count
            {act(1, 1, 1, 1, 1), act(2, 1, 1, 2, 1), act(2, 1, 1, 3, 1)},
        };
        int[] widest = {0, 0, 1, 2, 0, 0, 1, 0, 2, 1, 0};
        for (int i = 0; i < widest.length; i++) {
            int n = i;
            LogHunt x = with(50, acts[n]);
            int q = Check.ask(x, "by who;kind 1");
            due(widest[n], () -> x.widest(q, 50));
            due(NONE, () -> x.widest(q, 49));
        }
    }

    @Says("HUNTERS 0 to 3 may ask about FIELDS (bits 1 who, 2 what, 4 where; all at first)")
    private static void hunters() {
        String[] fields = {"who", "what", "where"};
        for (int h = 0; h < 4; h++) {
            int hunter = h;
            LogHunt x = new LogHunt();
            Check.lay(x, "by who;kind 1 what 2;spread where 2 within 5");
            due(0, () -> x.ask(hunter));
            for (int bits = 0; bits < 8; bits++) {
                for (int f = 0; f < 3; f++) {
                    LogHunt y = new LogHunt();
                    y.may(hunter, bits);
                    Check.lay(y, "by " + fields[f] + ";kind 1");
                    due((bits >> f & 1) == 1 ? 0 : STATE, () -> y.ask(hunter));
                    // the others are not touched
                    Check.lay(y, "by " + fields[f] + ";kind 1");
                    int number = bits >> f & 1;
                    due(number, () -> y.ask((hunter + 1) % 4));
                }
            }
        }
        LogHunt z = new LogHunt();
        for (int h : new int[] {-1, 4, LOW, HIGH}) {
            due(BOUNDS, () -> may(z, h, 7));
            due(BOUNDS, () -> z.ask(h));
        }
    }

    @Says("what a text tells as by, spread or in a COND")
    private static void whatATextTells() {
        String[] fields = {"who", "what", "where"};
        for (int f = 0; f < 3; f++) {
            String other = fields[(f + 1) % 3];
            String[] texts = {"by " + fields[f] + ";kind 1", "by " + other + ";kind 1;spread " + fields[f] + " 2 within 5",
                "by " + other + ";kind 1 " + fields[f] + " 0", "by " + other + ";kind 1;kind 2 " + fields[f] + " 0",
                "by " + other + ";kind 1;not kind 2 " + fields[f] + " 0;kind 3",
                "by " + other + ";kind 1;not kind 2 " + fields[f] + " 0 within 5"};
            for (String text : texts) {
                LogHunt x = new LogHunt();
                x.may(2, 7 & ~(1 << f));
                Check.lay(x, text);
                due(STATE, () -> x.ask(2));
                x.may(2, 1 << f | 1 << (f + 1) % 3);
                Check.lay(x, text);
                due(0, () -> x.ask(2));
            }
        }
    }

    @Says("(KIND and first are free.)")
    private static void kindAndFirstAreFree() {
        String[] fields = {"who", "what", "where"};
        for (int f = 0; f < 3; f++) {
            LogHunt x = new LogHunt();
            x.may(1, 1 << f);
            Check.lay(x, "by " + fields[f] + ";kind 1 first;not kind 2;kind 3 first within 4;not kind 5 within 6");
            due(0, () -> x.ask(1));
        }
    }

    @Says("Of several exceptions the one told first is thrown")
    private static void firstToldIsThrown() {
        LogHunt x = at(300);
        for (int i = 0; i < 250; i++) x.act(1, 2, 3, 4, i);
        due(ARGUMENT, () -> x.act(1, 2, 3, 4, 301));
        due(ARGUMENT, () -> x.act(8, 2, 3, 4, 251));
        due(FULL, () -> x.act(1, 2, 3, 4, 251));
        due(BOUNDS, () -> x.look(250, 7));
        due(NO_ELEMENT, () -> x.look(249, 7));
        due(BOUNDS, () -> may(x, 4, 8));
        due(ARGUMENT, () -> may(x, 3, 8));
        due(BOUNDS, () -> x.exempt(0, 31, 0));
        due(BOUNDS, () -> x.exempt(0, 0, -1));
        for (int i = 0; i < 8; i++) Check.ask(x, "by what;kind 1");
        due(ARGUMENT, () -> x.exempt(0, 31, 0));
        x.may(0, 2);
        String[] texts = {"by who;kind 8", "by who;kind 1", "by what;kind 1"};
        String[] thrown = {ARGUMENT, STATE, FULL};
        for (int i = 0; i < 3; i++) {
            int n = i;
            Check.lay(x, texts[n]);
            due(BOUNDS, () -> x.ask(4));
            Check.lay(x, texts[n]);
            due(thrown[n], () -> x.ask(0));
        }
    }

    /** All that can be seen of a desk, but for the TAPE. */
    private static String seen(LogHunt x, int acts, int questions) {
        StringBuilder s = new StringBuilder();
        for (int what = 0; what < 8; what++) s.append(x.count(what)).append(' ');
        s.append(x.cases()).append(' ');
        for (int a = 0; a < acts; a++) for (int what = 0; what < 7; what++) s.append(x.look(a, what)).append(' ');
        for (int q = 0; q < questions; q++) {
            int now = x.count(0);
            int[] parts = {x.finds(q, now), x.spared(q, now), x.cost(q, now), x.widest(q, now), x.found(q, now, 0),
                x.proof(q, now, 0, 0), x.joined(q, 0), x.joined(q, 1)};
            s.append(Arrays.toString(parts));
        }
        return s.toString();
    }

    @Says("a call that throws changes nothing but the TAPE, where it is used up")
    private static void throwsChangeNothing() {
        LogHunt x = with(50, act(1, 1, 1, 1, 10), act(1, 1, 2, 1, 20));
        for (int i = 0; i < 8; i++) Check.ask(x, "by who;kind 1;kind 1");
        x.exempt(0, 1, 15);
        x.may(2, 6);
        String before = seen(x, 2, 8);
        x.feed(1, 1, 1, 1, 1);
        Check.Call[] calls = {() -> x.ticks(-1), () -> x.ticks(100001), () -> x.act(8, 1, 1, 1, 10), () -> x.act(1, 1, 1, 1, 51),
            () -> x.look(2, 0), () -> x.look(0, 7), () -> x.finds(8, 50), () -> x.found(8, 50, 0), () -> x.proof(8, 50, 0, 0),
            () -> x.exempt(8, 1, 50), () -> x.exempt(0, 31, 50), () -> x.exempt(0, 1, 1000001), () -> x.spared(8, 50),
            () -> x.joined(8, 0), () -> x.joined(0, 2), () -> x.cost(8, 50), () -> x.widest(8, 50), () -> gap(x, 100001),
            () -> may(x, 4, 0), () -> may(x, 3, 8)};
        for (Check.Call call : calls) {
            due(true, () -> Check.answer(call).toString().startsWith("throws."));
            due(before, () -> seen(x, 2, 8));
        }
        due(40, () -> x.feed(1, 1, 1, 1, 1));
        // what ask() throws uses the TAPE up, and the HUNTERS may what they might
        String[] texts = {"x", "x", "by who;kind 1", "by what;kind 1"};
        int[] asking = {4, 0, 2, 2};
        String[] thrown = {BOUNDS, ARGUMENT, STATE, FULL};
        for (int i = 0; i < 4; i++) {
            int n = i;
            Check.lay(x, texts[n]);
            due(thrown[n], () -> x.ask(asking[n]));
            due(false, () -> x.end(1));
            due(before, () -> seen(x, 2, 8));
        }
    }

    @Says("IndexOutOfBoundsException: there is no such ACT, QUESTION, HUNTER.")
    private static void noSuch() {
        LogHunt x = new LogHunt();
        for (int made = 0; made <= 2; made++) {
            for (int n : new int[] {made, made + 1, -1, 8, 250, LOW, HIGH}) {
                dueAll(BOUNDS, () -> x.look(n, 0), () -> x.finds(n, 0), () -> x.found(n, 0, 0), () -> x.proof(n, 0, 0, 0),
                    () -> x.exempt(n, 0, 0), () -> x.spared(n, 0), () -> x.joined(n, 0), () -> x.joined(0, n),
                    () -> x.cost(n, 0), () -> x.widest(n, 0));
            }
            x.act(1, made, 0, 0, 0);
            Check.ask(x, "by who;kind 1");
        }
        for (int n : new int[] {-1, 4, 5, LOW, HIGH}) {
            dueAll(BOUNDS, () -> x.ask(n), () -> may(x, n, 0));
        }
    }

    @Says("An object is used for at most 512 calls after it has been made")
    private static void lasts512Calls() {
        LogHunt x = new LogHunt();
        int calls = 0;
        for (; calls < 3; calls++) x.ticks(100);
        int[] laid = Check.numbers("by where;kind 1;kind 1");
        for (int i = 0; i < laid.length; i += 5, calls++) x.feed(laid[i], laid[i + 1], laid[i + 2], laid[i + 3], laid[i + 4]);
        x.end(22);
        due(0, () -> x.ask(0));
        calls += 2;
        for (int i = 0; i < 250; i++, calls++) x.act(1, i % 31, i % 29, 0, i);
        for (; calls < 511; calls++) {
            int n = calls % 249;
            due(n, () -> x.proof(0, 300, n, 0));
        }
        due(1, x::cases);
    }
}
