/** Promises 1 to 20 at their edges: each sentence by a method of its own, named after its promise. */
public final class CallsEdgeTest extends Edges {
    private static final String BLANKS = " ".repeat(20);

    public static void main(String[] args) {
        hold(CallsEdgeTest.class, args);
    }

    @Says("No ACTS, no QUESTIONS; NOW is 0.")
    private static void p01NewObject() {
        LogHunt x = new LogHunt();
        due(0, () -> x.count(1));
        due(0, () -> x.count(3));
        due(0, () -> x.count(0));
        dueAll(0, () -> x.count(2), () -> x.count(4), () -> x.count(6), () -> x.count(7), x::cases);
        due(BOUNDS, () -> x.look(0, 0));
        due(BOUNDS, () -> x.finds(0, 0));
        due(false, () -> x.end(1));
        // another object has nothing of it
        LogHunt y = with(5, act(1, 1, 1, 1, 1));
        Check.ask(y, "by who;kind 1");
        y.exempt(0, 1, 5);
        y.gap(7);
        y.may(0, 0);
        y.feed(1, 1, 1, 1, 1);
        LogHunt z = new LogHunt();
        int[] counts = {0, 0, 0, 0, 0, 100, 0, 0};
        for (int i = 0; i < counts.length; i++) {
            int what = i;
            due(counts[what], () -> z.count(what));
        }
        due(false, () -> z.end(1));
        due(0, () -> Check.ask(z, "by who;kind 1"));
    }

    @Says("Twenty bytes come behind the TAPE, of each number the highest first")
    private static void p02BytesInOrder() {
        for (int i = 0; i < 20; i++) {
            int at = i;
            for (char wrong : new char[] {1, 127, 128, 255}) {
                int[] n = Check.numbers(BLANKS.substring(0, at) + wrong + BLANKS.substring(at + 1));
                LogHunt x = new LogHunt();
                x.feed(n[0], n[1], n[2], n[3], n[4]);
                due(ARGUMENT, () -> x.ask(0));
                due(at, x::fault);
                // behind what was there
                x.feed(0x20202020, 0x20202020, 0x20202020, 0x20202020, 0x20202020);
                x.feed(n[0], n[1], n[2], n[3], n[4]);
                due(ARGUMENT, () -> x.ask(0));
                due(20 + at, x::fault);
            }
        }
        LogHunt y = new LogHunt();
        y.feed(0x62792077, 0x686f3b6b, 0x696e6420, 0x37207768, 0x6f203330);
        due(0, () -> y.ask(0));
    }

    @Says("how many it has")
    private static void p02HowMany() {
        LogHunt x = new LogHunt();
        due(20, () -> x.feed(0, 0, 0, 0, 0));
        due(40, () -> x.feed(-1, -1, -1, -1, -1));
        x.end(1);
        due(21, () -> x.feed(LOW, HIGH, LOW, HIGH, LOW));
        x.end(0);
        due(20, () -> x.feed(1, 2, 3, 4, 5));
    }

    @Says("NONE, and none come, if it would have more than 400")
    private static void p02Full() {
        LogHunt x = new LogHunt();
        for (int i = 1; i <= 20; i++) {
            int n = i;
            due(20 * n, () -> x.feed(0x20202020, 0x20202020, 0x20202020, 0x20202020, 0x20202020));
        }
        due(NONE, () -> x.feed(0, 0, 0, 0, 0));
        due(false, () -> x.end(401));
        due(true, () -> x.end(381));
        due(NONE, () -> x.feed(0, 0, 0, 0, 0));
        due(false, () -> x.end(382));
        due(true, () -> x.end(381));
        // none of its bytes came: the blanks are blanks still, to their end
        due(ARGUMENT, () -> x.ask(0));
        due(381, x::fault);
        LogHunt y = new LogHunt();
        for (int i = 0; i < 20; i++) y.feed(0x20202020, 0x20202020, 0x20202020, 0x20202020, 0x20202020);
        y.end(380);
        due(400, () -> y.feed(0x20202020, 0x20202020, 0x20202020, 0x20202020, 0x20202020));
        due(ARGUMENT, () -> y.ask(0));
        due(400, y::fault);
    }

    @Says("The TAPE has its first n bytes alone: true")
    private static void p03FirstBytes() {
        LogHunt x = new LogHunt();
        due(true, () -> x.end(0));
        Check.lay(x, "by who;kind 1;not");
        due(true, () -> x.end(17));
        due(true, () -> x.end(13));
        due(false, () -> x.end(14));
        due(0, () -> x.ask(0));
        // what was cut off does not come back
        Check.lay(x, "by who;kind 1 who 5xx");
        due(true, () -> x.end(19));
        due(39, () -> x.feed(0x20202020, 0x20202020, 0x20202020, 0x20202020, 0x20202020));
        due(1, () -> x.ask(0));
        x.feed(1, 1, 1, 1, 1);
        due(true, () -> x.end(1));
        due(true, () -> x.end(0));
        due(false, () -> x.end(1));
        due(20, () -> x.feed(1, 1, 1, 1, 1));
    }

    @Says("false, and nothing happens, if it has fewer, or n is below 0")
    private static void p03Refused() {
        LogHunt x = new LogHunt();
        dueAll(false, () -> x.end(1), () -> x.end(-1), () -> x.end(LOW), () -> x.end(HIGH));
        Check.lay(x, "by who;kind 1");
        dueAll(false, () -> x.end(14), () -> x.end(20), () -> x.end(400), () -> x.end(HIGH), () -> x.end(-1), () -> x.end(LOW));
        due(true, () -> x.end(13));
        due(0, () -> x.ask(0));
        for (int i = 0; i < 20; i++) x.feed(1, 1, 1, 1, 1);
        dueAll(false, () -> x.end(401), () -> x.end(-400));
        due(true, () -> x.end(400));
    }

    @Says("So many ticks later, as far as NOW may go: NOW.")
    private static void p04Ticks() {
        LogHunt x = new LogHunt();
        due(0, () -> x.ticks(0));
        due(1, () -> x.ticks(1));
        due(100001, () -> x.ticks(100000));
        go(x, 800000);
        due(1000000, () -> x.ticks(99999));
        due(1000000, () -> x.ticks(0));
        due(1000000, () -> x.ticks(100000));
        LogHunt y = at(900000);
        due(1000000, () -> y.ticks(100000));
        LogHunt z = at(900001);
        due(1000000, () -> z.ticks(100000));
    }

    @Says("IllegalArgumentException: not 0 to 100000.")
    private static void p04Refused() {
        LogHunt x = at(7);
        dueAll(ARGUMENT, () -> x.ticks(-1), () -> x.ticks(100001), () -> x.ticks(LOW), () -> x.ticks(HIGH));
        due(7, () -> x.count(0));
        go(x, 999993);
        dueAll(ARGUMENT, () -> x.ticks(-1), () -> x.ticks(100001), () -> x.ticks(LOW), () -> x.ticks(HIGH));
        due(1000000, () -> x.count(0));
    }

    @Says("An ACT: its number; NONE of a DOUBLE.")
    private static void p05Act() {
        LogHunt x = at(9);
        due(0, () -> x.act(1, 1, 1, 1, 9));
        due(NONE, () -> x.act(1, 1, 1, 1, 9));
        due(1, () -> x.act(1, 1, 1, 1, 8));
        due(NONE, () -> x.act(1, 1, 1, 1, 9));
        due(NONE, () -> x.act(1, 1, 1, 1, 8));
        due(2, () -> x.act(1, 1, 1, 1, 0));
    }

    @Says("IllegalArgumentException: a number is none, or TICK is not 0 to NOW")
    private static void p05Refused() {
        LogHunt x = at(9);
        int[][] wrong = {{-1, 0, 0, 0, 0}, {8, 0, 0, 0, 0}, {0, -1, 0, 0, 0}, {0, 31, 0, 0, 0}, {0, 0, -1, 0, 0},
            {0, 0, 31, 0, 0}, {0, 0, 0, -1, 0}, {0, 0, 0, 16, 0}, {0, 0, 0, 0, -1}, {0, 0, 0, 0, 10}, {0, 0, 0, 0, LOW},
            {0, 0, 0, 0, HIGH}, {0, 0, 0, 0, 1000001}};
        for (int[] w : wrong) {
            due(ARGUMENT, () -> x.act(w[0], w[1], w[2], w[3], w[4]));
        }
        due(0, () -> x.count(1));
        due(0, () -> x.act(0, 0, 0, 0, 9));
        due(1, () -> x.act(0, 0, 0, 0, 0));
    }

    @Says("UnsupportedOperationException: there are 250 (and it is no DOUBLE)")
    private static void p05Full() {
        LogHunt x = at(300);
        for (int i = 0; i < 249; i++) x.act(1, 2, 3, 4, i);
        due(NONE, () -> x.act(1, 2, 3, 4, 0));
        due(249, () -> x.act(1, 2, 3, 4, 249));
        due(FULL, () -> x.act(1, 2, 3, 4, 250));
        due(NONE, () -> x.act(1, 2, 3, 4, 249));
        due(NONE, () -> x.act(1, 2, 3, 4, 0));
        due(FULL, () -> x.act(1, 2, 3, 5, 249));
        due(ARGUMENT, () -> x.act(1, 2, 3, 16, 249));
        due(250, () -> x.count(1));
        due(3, () -> x.count(2));
        due(2, () -> x.look(0, 6));
    }

    @Says("Of an ACT what 0 KIND, 1 WHO, 2 WHAT, 3 WHERE, 4 TICK, 5 TOLD, 6 how many DOUBLES of it came.")
    private static void p06Look() {
        LogHunt x = with(40, act(7, 30, 29, 15, 38), act(0, 0, 0, 0, 0));
        int[][] parts = {{7, 30, 29, 15, 38, 40, 0}, {0, 0, 0, 0, 0, 40, 0}};
        for (int a = 0; a < 2; a++) {
            for (int w = 0; w < 7; w++) {
                int n = a;
                int what = w;
                due(parts[n][what], () -> x.look(n, what));
            }
        }
        x.ticks(1);
        for (int i = 1; i <= 3; i++) {
            int n = i;
            x.act(7, 30, 29, 15, 38);
            due(n, () -> x.look(0, 6));
            due(0, () -> x.look(1, 6));
        }
        due(40, () -> x.look(0, 5));
    }

    @Says("NoSuchElementException: another what.")
    private static void p06AnotherWhat() {
        LogHunt x = with(1, act(1, 1, 1, 1, 1));
        dueAll(NO_ELEMENT, () -> x.look(0, -1), () -> x.look(0, 7), () -> x.look(0, LOW), () -> x.look(0, HIGH));
        dueAll(BOUNDS, () -> x.look(1, 6), () -> x.look(-1, 0), () -> x.look(1, 7), () -> x.look(-1, -1), () -> x.look(250, 0),
            () -> x.look(HIGH, 0), () -> x.look(LOW, 0));
    }

    @Says("FIELDS of a HUNTER, as bits.")
    private static void p07May() {
        LogHunt x = new LogHunt();
        due("may", () -> may(x, 3, 0));
        Check.lay(x, "by who;kind 1");
        due(STATE, () -> x.ask(3));
        due("may", () -> may(x, 3, 1));
        Check.lay(x, "by who;kind 1");
        due(0, () -> x.ask(3));
        due("may", () -> may(x, 3, 6));
        Check.lay(x, "by who;kind 1");
        due(STATE, () -> x.ask(3));
        // the QUESTION that there is goes on
        due(0, () -> x.finds(0, 0));
        due("may", () -> may(x, 0, 7));
        Check.lay(x, "by who;kind 1 what 1 where 1");
        due(1, () -> x.ask(0));
    }

    @Says("IllegalArgumentException: not 0 to 7.")
    private static void p07Refused() {
        LogHunt x = new LogHunt();
        due("may", () -> may(x, 1, 2));
        dueAll(ARGUMENT, () -> may(x, 1, -1), () -> may(x, 1, 8), () -> may(x, 1, 15), () -> may(x, 1, LOW), () -> may(x, 1, HIGH));
        dueAll(BOUNDS, () -> may(x, -1, 7), () -> may(x, 4, 7), () -> may(x, -1, 8), () -> may(x, 4, -1), () -> may(x, LOW, 7),
            () -> may(x, HIGH, 7));
        Check.lay(x, "by who;kind 1");
        due(STATE, () -> x.ask(1));
        Check.lay(x, "by what;kind 1");
        due(0, () -> x.ask(1));
    }

    @Says("Uses the TAPE up: a QUESTION of a HUNTER: its number.")
    private static void p08Ask() {
        LogHunt x = new LogHunt();
        for (int i = 0; i < 8; i++) {
            int n = i;
            Check.lay(x, "by who;kind " + n + " ".repeat(i == 7 ? 387 : 0));
            due(n, () -> x.ask(n % 4));
            due(false, () -> x.end(1));
            due(20, () -> x.feed(0, 0, 0, 0, 0));
        }
        due(8, () -> x.count(3));
    }

    @Says("IllegalArgumentException: the text is wrong")
    private static void p08WrongText() {
        LogHunt x = with(9, act(1, 1, 1, 1, 1), act(1, 1, 1, 2, 2));
        String[] wrong = {"", "by who", "by who;kind 8", "by who;kind 1 who 1 what 1 where 1;", "by who;kind 1 first;",
            "by what;kind 1;kind 1;kind 1;kind 1;kind 1;kind 1;kind 1", "by who;kind 1;spread what 2 within 5;",
            "by who;kind 1;not kind 1 within 9;kind 1"};
        for (String text : wrong) {
            int before = x.count(3);
            Check.lay(x, text);
            due(ARGUMENT, () -> x.ask(3));
            due(false, () -> x.end(1));
            due(before, () -> x.count(3));
            // the next one has nothing of it
            if (before < 8) {
                due(before, () -> Check.ask(x, "by who;kind 1"));
                due(2, () -> x.finds(before, 9));
                due(NONE, () -> x.proof(before, 9, 0, 1));
            }
        }
        LogHunt y = with(50, act(1, 1, 1, 1, 1), act(2, 1, 1, 1, 5));
        Check.lay(y, "by who;kind 1;not kind 7 within 2;not kind 2 within 9 x");
        due(ARGUMENT, () -> y.ask(0));
        due(0, () -> Check.ask(y, "by who;kind 1;not kind 7 within 2"));
        due(1, () -> y.finds(0, 50));
    }

    @Says("IllegalStateException: it asks about a FIELD that HUNTER may not")
    private static void p08MayNot() {
        LogHunt x = new LogHunt();
        x.may(1, 3);
        Check.lay(x, "by who;kind 1 what 1;spread where 2 within 5");
        due(STATE, () -> x.ask(1));
        due(false, () -> x.end(1));
        due(0, () -> x.count(3));
        Check.lay(x, "by who;kind 1 what 1;spread what 2 within 5");
        due(0, () -> x.ask(1));
        // what a refused text told does not stay with the next one
        Check.lay(x, "by where;kind 1;x");
        due(ARGUMENT, () -> x.ask(1));
        Check.lay(x, "by who;kind 1");
        due(1, () -> x.ask(1));
    }

    @Says("UnsupportedOperationException: there are 8.")
    private static void p08Full() {
        LogHunt x = with(9, act(1, 1, 1, 1, 1), act(2, 1, 1, 1, 2));
        for (int i = 0; i < 7; i++) Check.ask(x, "by who;kind 3");
        due(7, () -> Check.ask(x, "by who;kind 1"));
        due(FULL, () -> Check.ask(x, "by who;kind 1;kind 2"));
        due(false, () -> x.end(1));
        due(8, () -> x.count(3));
        due(0, () -> x.found(7, 9, 0));
        due(NONE, x::fault);
    }

    @Says("The first wrong byte of the latest ask() of a HUNTER that there is")
    private static void p09Fault() {
        LogHunt x = new LogHunt();
        Check.lay(x, "by who;kinds 1");
        due(ARGUMENT, () -> x.ask(0));
        due(7, x::fault);
        due(7, x::fault);
        Check.lay(x, "by whom");
        due(BOUNDS, () -> x.ask(4));
        due(7, x::fault);
        Check.lay(x, "by who;kind 1");
        due(BOUNDS, () -> x.ask(-1));
        due(7, x::fault);
        Check.lay(x, "by whom");
        due(ARGUMENT, () -> x.ask(3));
        due(3, x::fault);
        due(ARGUMENT, () -> x.ask(3));
        due(0, x::fault);
    }

    @Says("NONE without one, and ahead of any")
    private static void p09None() {
        LogHunt x = new LogHunt();
        due(NONE, x::fault);
        due(BOUNDS, () -> x.ask(4));
        due(NONE, x::fault);
        due(ARGUMENT, () -> x.ask(0));
        due(0, x::fault);
        due(0, () -> Check.ask(x, "by who;kind 1"));
        due(NONE, x::fault);
        due(ARGUMENT, () -> x.ask(0));
        x.may(1, 0);
        Check.lay(x, "by who;kind 1");
        due(STATE, () -> x.ask(1));
        due(NONE, x::fault);
        for (int i = 1; i < 8; i++) Check.ask(x, "by who;kind 1");
        due(ARGUMENT, () -> x.ask(0));
        due(FULL, () -> Check.ask(x, "by who;kind 1"));
        due(NONE, x::fault);
        Check.lay(x, "by who;kind 1");
        due(STATE, () -> x.ask(1));
        due(NONE, x::fault);
    }

    @Says("How many FINDS a QUESTION has at a tick (EXEMPT ones, too); 0 at one below 0.")
    private static void p10Finds() {
        LogHunt x = with(0, act(1, 1, 1, 1, 0), act(1, 2, 1, 1, 0));
        int q = Check.ask(x, "by who;kind 1");
        due(2, () -> x.finds(q, 0));
        x.exempt(q, 1, 1000000);
        x.exempt(q, 2, 0);
        due(2, () -> x.finds(q, 0));
        due(2, () -> x.finds(q, HIGH));
        due(0, () -> x.finds(q, -1));
        due(0, () -> x.finds(q, LOW));
        dueAll(BOUNDS, () -> x.finds(1, 0), () -> x.finds(-1, 0), () -> x.finds(1, -1), () -> x.finds(8, 0));
    }

    @Says("The ACT of FIND n (from 0 on) of a QUESTION at a tick; NONE if there is none such.")
    private static void p11Found() {
        LogHunt x = with(9, act(2, 1, 1, 1, 0), act(1, 1, 1, 1, 5), act(1, 1, 1, 1, 4));
        int q = Check.ask(x, "by who;kind 1");
        due(2, () -> x.found(q, 9, 0));
        due(1, () -> x.found(q, 9, 1));
        dueAll(NONE, () -> x.found(q, 9, 2), () -> x.found(q, 9, -1), () -> x.found(q, 9, LOW), () -> x.found(q, 9, HIGH),
            () -> x.found(q, 9, 250), () -> x.found(q, 8, 0), () -> x.found(q, -1, 0), () -> x.found(q, LOW, 0));
        x.exempt(q, 1, 9);
        due(2, () -> x.found(q, 9, 0));
        due(1, () -> x.found(q, HIGH, 1));
        dueAll(BOUNDS, () -> x.found(1, 9, 0), () -> x.found(-1, 9, 0), () -> x.found(1, -1, -1));
    }

    @Says("ACT i (from 0 on, the first one first) of the PROOF of FIND n; NONE if there is none such.")
    private static void p12Proof() {
        LogHunt x = with(9, act(3, 1, 1, 1, 5), act(2, 1, 1, 1, 4), act(1, 1, 1, 1, 3));
        int q = Check.ask(x, "by who;kind 1;not kind 7;kind 2;kind 3;not kind 6 within 1");
        due(2, () -> x.proof(q, 9, 0, 0));
        due(1, () -> x.proof(q, 9, 0, 1));
        due(0, () -> x.proof(q, 9, 0, 2));
        dueAll(NONE, () -> x.proof(q, 9, 0, 3), () -> x.proof(q, 9, 0, -1), () -> x.proof(q, 9, 0, LOW), () -> x.proof(q, 9, 0, HIGH),
            () -> x.proof(q, 9, 0, 6), () -> x.proof(q, 9, 1, 0), () -> x.proof(q, 9, -1, 0), () -> x.proof(q, 9, LOW, 0),
            () -> x.proof(q, 9, HIGH, 0), () -> x.proof(q, 9, 1, 3), () -> x.proof(q, 8, 0, 0), () -> x.proof(q, -1, 0, 0),
            () -> x.proof(q, LOW, 0, 0));
        due(2, () -> x.proof(q, HIGH, 0, 0));
        int one = Check.ask(x, "by who;kind 3");
        due(0, () -> x.proof(one, 9, 0, 0));
        due(NONE, () -> x.proof(one, 9, 0, 1));
        dueAll(BOUNDS, () -> x.proof(2, 9, 0, 0), () -> x.proof(-1, 9, 0, 0), () -> x.proof(2, -1, -1, -1));
    }

    @Says("A WHO is EXEMPT: how many are told; NONE, and it is not, if there are 40.")
    private static void p13Exempt() {
        LogHunt x = with(9, act(1, 3, 1, 1, 5));
        int q = Check.ask(x, "by who;kind 1");
        for (int i = 1; i <= 40; i++) {
            int n = i;
            due(n, () -> x.exempt(q, 4, 5));
            due(n, () -> x.count(4));
        }
        due(NONE, () -> x.exempt(q, 3, 5));
        due(40, () -> x.count(4));
        due(0, () -> x.spared(q, 9));
        due(1, () -> x.joined(q, 0));
        LogHunt y = with(9, act(1, 3, 1, 1, 5));
        int r = Check.ask(y, "by who;kind 1");
        for (int i = 1; i <= 39; i++) y.exempt(r, 4, 5);
        due(40, () -> y.exempt(r, 3, 5));
        due(1, () -> y.spared(r, 9));
        due(0, () -> y.joined(r, 0));
    }

    @Says("IllegalArgumentException: WHO is none, or the TICK is not 0 to 1000000.")
    private static void p13Refused() {
        LogHunt x = new LogHunt();
        Check.ask(x, "by who;kind 1");
        dueAll(ARGUMENT, () -> x.exempt(0, -1, 0), () -> x.exempt(0, 31, 0), () -> x.exempt(0, LOW, 0), () -> x.exempt(0, HIGH, 0),
            () -> x.exempt(0, 0, -1), () -> x.exempt(0, 0, 1000001), () -> x.exempt(0, 0, LOW), () -> x.exempt(0, 0, HIGH));
        dueAll(BOUNDS, () -> x.exempt(1, 0, 0), () -> x.exempt(-1, 0, 0), () -> x.exempt(1, 31, -1));
        due(0, () -> x.count(4));
        due(1, () -> x.exempt(0, 0, 0));
        due(2, () -> x.exempt(0, 30, 1000000));
        for (int i = 3; i <= 40; i++) x.exempt(0, 0, 0);
        dueAll(ARGUMENT, () -> x.exempt(0, 31, 0), () -> x.exempt(0, 0, 1000001));
        due(BOUNDS, () -> x.exempt(1, 0, 0));
    }

    @Says("How many FINDS of a QUESTION at a tick are EXEMPT.")
    private static void p14Spared() {
        LogHunt x = with(9, act(1, 1, 1, 1, 5), act(1, 1, 1, 2, 6), act(1, 2, 1, 1, 5), act(2, 1, 1, 1, 5));
        int q = Check.ask(x, "by who;kind 1");
        due(0, () -> x.spared(q, 9));
        x.exempt(q, 1, 5);
        due(1, () -> x.spared(q, 9));
        x.exempt(q, 1, 6);
        // told twice, it is EXEMPT once
        x.exempt(q, 1, 9);
        due(2, () -> x.spared(q, 9));
        due(2, () -> x.spared(q, HIGH));
        dueAll(0, () -> x.spared(q, 8), () -> x.spared(q, -1), () -> x.spared(q, LOW));
        dueAll(BOUNDS, () -> x.spared(1, 9), () -> x.spared(-1, 9));
        // EXEMPT is of the FIND's TICK, not of the tick that is asked about
        x.ticks(1);
        x.act(1, 1, 1, 1, 9);
        x.act(1, 1, 1, 1, 10);
        due(2, () -> x.spared(q, 9));
        due(3, () -> x.spared(q, 10));
    }

    @Says("GAP. IllegalArgumentException: it is none.")
    private static void p15Gap() {
        LogHunt x = new LogHunt();
        due("gap", () -> gap(x, 0));
        due(0, () -> x.count(5));
        dueAll(ARGUMENT, () -> gap(x, -1), () -> gap(x, 100001), () -> gap(x, LOW), () -> gap(x, HIGH));
        due(0, () -> x.count(5));
        due("gap", () -> gap(x, 100000));
        due(100000, () -> x.count(5));
    }

    @Says("How many CASES there are.")
    private static void p16Cases() {
        LogHunt x = new LogHunt();
        due(0, x::cases);
        int q = Check.ask(x, "by who;kind 1");
        due(0, x::cases);
        for (int i = 0; i < 16; i++) {
            int n = i;
            x.act(1, n, 0, n, 0);
            due(n + 1, x::cases);
        }
        for (int who = 0; who < 16; who++) x.exempt(q, who, 0);
        due(0, x::cases);
        // one for each of the 250, as they lie too far apart
        LogHunt y = at(100000);
        Check.ask(y, "by who;kind 1");
        for (int i = 0; i < 250; i++) y.act(1, 1, 1, 1, 101 * i);
        due(250, y::cases);
        y.gap(101);
        due(1, y::cases);
        y.gap(100);
        due(250, y::cases);
    }

    @Says("How many FINDS are in one CASE with the FIND of a QUESTION that this ACT is, NOW (itself too)")
    private static void p17Joined() {
        LogHunt x = with(9, act(1, 1, 1, 1, 5), act(2, 1, 1, 1, 6), act(1, 9, 9, 9, 5));
        int one = Check.ask(x, "by who;kind 1");
        due(1, () -> x.joined(one, 0));
        due(1, () -> x.joined(one, 2));
        int two = Check.ask(x, "by who;kind 2");
        due(2, () -> x.joined(one, 0));
        due(2, () -> x.joined(two, 1));
        for (int i = 2; i < 8; i++) {
            int q = Check.ask(x, "by who;kind 1;kind 2");
            int n = i;
            due(n + 1, () -> x.joined(q, 1));
        }
        due(8, () -> x.joined(one, 0));
        due(1, () -> x.joined(one, 2));
        LogHunt y = at(300);
        int q = Check.ask(y, "by who;kind 1");
        for (int i = 0; i < 250; i++) y.act(1, 1, 1, 1, i);
        Check.ask(y, "by who;kind 1");
        due(500, () -> y.joined(q, 249));
    }

    @Says("0 if it is none, or EXEMPT")
    private static void p17None() {
        LogHunt x = with(9, act(1, 1, 1, 1, 5), act(2, 1, 1, 1, 6), act(3, 1, 1, 1, 9));
        int one = Check.ask(x, "by who;kind 1");
        int two = Check.ask(x, "by who;kind 2");
        int waits = Check.ask(x, "by who;kind 3;not kind 4 within 1");
        due(0, () -> x.joined(one, 1));
        due(0, () -> x.joined(two, 0));
        due(0, () -> x.joined(waits, 2));
        x.ticks(1);
        due(3, () -> x.joined(waits, 2));
        x.exempt(one, 1, 4);
        due(3, () -> x.joined(one, 0));
        x.exempt(one, 1, 5);
        due(0, () -> x.joined(one, 0));
        due(2, () -> x.joined(two, 1));
    }

    @Says("IndexOutOfBoundsException: of a QUESTION, ACT.")
    private static void p17Refused() {
        LogHunt x = new LogHunt();
        dueAll(BOUNDS, () -> x.joined(0, 0), () -> x.joined(-1, -1));
        x.act(1, 1, 1, 1, 0);
        due(BOUNDS, () -> x.joined(0, 0));
        Check.ask(x, "by who;kind 1");
        due(1, () -> x.joined(0, 0));
        dueAll(BOUNDS, () -> x.joined(1, 0), () -> x.joined(-1, 0), () -> x.joined(8, 0), () -> x.joined(0, 1),
            () -> x.joined(0, -1), () -> x.joined(0, 250), () -> x.joined(LOW, 0), () -> x.joined(HIGH, 0),
            () -> x.joined(0, LOW), () -> x.joined(0, HIGH));
    }

    @Says("COST.")
    private static void p18Cost() {
        LogHunt x = with(9, act(1, 1, 1, 1, 5), act(1, 1, 1, 1, 6), act(2, 1, 1, 1, 6));
        int q = Check.ask(x, "by who;kind 1;kind 2");
        due(1, () -> x.cost(q, 9));
        due(1, () -> x.cost(q, HIGH));
        dueAll(0, () -> x.cost(q, 8), () -> x.cost(q, -1), () -> x.cost(q, LOW));
        dueAll(BOUNDS, () -> x.cost(1, 9), () -> x.cost(-1, 9), () -> x.cost(8, 9), () -> x.cost(LOW, 9), () -> x.cost(HIGH, 9));
    }

    @Says("WIDEST; NONE without FINDS.")
    private static void p19Widest() {
        LogHunt x = with(9, act(1, 1, 1, 1, 5), act(1, 1, 1, 2, 5));
        int q = Check.ask(x, "by who;kind 1");
        int none = Check.ask(x, "by who;kind 1;kind 1");
        due(2, () -> x.widest(q, 9));
        due(2, () -> x.widest(q, HIGH));
        due(NONE, () -> x.widest(none, 9));
        dueAll(NONE, () -> x.widest(q, 8), () -> x.widest(q, -1), () -> x.widest(q, LOW));
        x.exempt(q, 1, 9);
        due(2, () -> x.widest(q, 9));
        dueAll(BOUNDS, () -> x.widest(2, 9), () -> x.widest(-1, 9), () -> x.widest(8, 9), () -> x.widest(LOW, 9),
            () -> x.widest(HIGH, 9));
    }

    @Says("0 NOW, 1 ACTS, 2 DOUBLES, 3 QUESTIONS, 4 EXEMPT told, 5 GAP")
    private static void p20Count() {
        LogHunt x = at(60);
        for (int i = 0; i < 5; i++) x.act(1, 1, 1, 1, i);
        for (int i = 0; i < 2; i++) for (int j = 0; j < 2; j++) x.act(1, 1, 1, 1, i);
        for (int i = 0; i < 3; i++) Check.ask(x, "by who;kind 1");
        for (int i = 0; i < 6; i++) x.exempt(i % 3, 1, 1);
        x.gap(77);
        int[] counts = {60, 5, 4, 3, 6, 77};
        for (int i = 0; i < counts.length; i++) {
            int what = i;
            due(counts[what], () -> x.count(what));
        }
    }

    @Says("6 ACTS that came late (TOLD above TICK)")
    private static void p20Late() {
        LogHunt x = new LogHunt();
        x.act(1, 1, 1, 1, 0);
        due(0, () -> x.count(6));
        x.ticks(1);
        x.act(1, 1, 1, 1, 1);
        due(0, () -> x.count(6));
        x.act(2, 1, 1, 1, 0);
        due(1, () -> x.count(6));
        // a DOUBLE does not come, late or not
        x.act(1, 1, 1, 1, 0);
        due(1, () -> x.count(6));
        go(x, 999999);
        x.act(3, 1, 1, 1, 0);
        x.act(3, 1, 1, 1, 1000000);
        due(2, () -> x.count(6));
    }

    @Says("7 all FINDS of all QUESTIONS NOW")
    private static void p20Finds() {
        LogHunt x = with(9, act(1, 1, 1, 1, 5), act(1, 2, 1, 1, 9));
        due(0, () -> x.count(7));
        Check.ask(x, "by who;kind 1");
        due(2, () -> x.count(7));
        Check.ask(x, "by who;kind 1;not kind 3 within 1");
        due(3, () -> x.count(7));
        x.exempt(0, 1, 9);
        due(3, () -> x.count(7));
        x.ticks(1);
        due(4, () -> x.count(7));
        x.act(3, 2, 1, 1, 10);
        due(3, () -> x.count(7));
        LogHunt y = at(300);
        for (int i = 0; i < 250; i++) y.act(1, 1, 1, 1, i);
        for (int i = 0; i < 8; i++) Check.ask(y, "by who;kind 1");
        due(2000, () -> y.count(7));
    }

    @Says("NONE for another what.")
    private static void p20AnotherWhat() {
        LogHunt x = new LogHunt();
        dueAll(NONE, () -> x.count(8), () -> x.count(-1), () -> x.count(LOW), () -> x.count(HIGH));
        due(NONE, () -> LogHunt.NONE);
    }
}
