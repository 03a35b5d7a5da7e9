/** Each promise of the document by itself: ordinary calls, the edges that it names, and wrong calls. */
public final class PromiseTest extends Desks {
    public static void main(String[] args) {
        newObject();
        feed();
        end();
        ticks();
        act();
        actsAtMost();
        look();
        may();
        ask();
        asksInOrder();
        fault();
        finds();
        findsWithin();
        findsNotBetween();
        findsNotBehind();
        findsFirst();
        findsSpread();
        findsAsKnown();
        found();
        proof();
        exempt();
        spared();
        gap();
        cases();
        throwsChangeNothing();
        joined();
        cost();
        widest();
        count();
        Check.close("PromiseTest");
    }

    private static void due(String what, Object want, Check.Call call) {
        Check.due(what, want, call);
    }

    private static void newObject() {
        LogHunt x = new LogHunt();
        int[] counts = {0, 0, 0, 0, 0, 100, 0, 0};
        for (int i = 0; i < counts.length; i++) {
            int what = i;
            due("1: count(" + i + ")", counts[i], () -> x.count(what));
        }
        due("1: fault", -1, x::fault);
        due("1: cases", 0, x::cases);
        due("1: no act", BOUNDS, () -> x.look(0, 0));
        due("1: no question", BOUNDS, () -> x.finds(0, 0));
        due("1: NONE", -1, () -> LogHunt.NONE);
    }

    private static void feed() {
        LogHunt x = new LogHunt();
        for (int n = 20; n <= 380; n += 20) {
            int want = n;
            due("2: feed up to " + n, want, () -> x.feed(1, 2, 3, 4, 5));
        }
        due("2: 380 still", true, () -> x.end(380));
        due("2: the last that fits", 400, () -> x.feed(0, 0, 0, 0, 0));
        due("2: full", -1, () -> x.feed(0, 0, 0, 0, 0));
        due("2: none came", true, () -> x.end(400));
        due("2: no more than 400", false, () -> x.end(401));
        due("2: shorter", true, () -> x.end(381));
        due("2: 401 would be too many", -1, () -> x.feed(0, 0, 0, 0, 0));
        due("2: none came of it", false, () -> x.end(382));

        LogHunt y = new LogHunt();
        // "by who;kind 7 who 30" is 20 bytes: the highest byte of each number comes first
        due("2: a text", 20, () -> y.feed(0x62792077, 0x686f3b6b, 0x696e6420, 0x37207768, 0x6f203330));
        due("2: it reads so", 0, () -> y.ask(0));
        due("2: a byte above 127", 20, () -> y.feed(0xff000000, 0, 0, 0, 0));
        due("2: reads wrong", ARGUMENT, () -> y.ask(0));
        due("2: at the first byte", 0, y::fault);
    }

    private static void end() {
        LogHunt x = new LogHunt();
        due("3: an empty tape", true, () -> x.end(0));
        due("3: fewer", false, () -> x.end(1));
        due("3: below 0", false, () -> x.end(-1));
        due("3: lowest", false, () -> x.end(LOW));
        x.feed(1, 1, 1, 1, 1);
        due("3: one too many", false, () -> x.end(21));
        due("3: highest", false, () -> x.end(HIGH));
        due("3: all", true, () -> x.end(20));
        due("3: below 0 changes nothing", false, () -> x.end(-1));
        due("3: still 20", 40, () -> x.feed(1, 1, 1, 1, 1));
        due("3: 7 stay", true, () -> x.end(7));
        due("3: 8 are gone", false, () -> x.end(8));
        due("3: goes on behind 7", 27, () -> x.feed(1, 1, 1, 1, 1));
        Check.lay(x, "by who;kind 1xyz");
        x.end(13);
        due("3: the first bytes stay", 0, () -> x.ask(0));
    }

    private static void ticks() {
        LogHunt x = new LogHunt();
        due("4: none", 0, () -> x.ticks(0));
        due("4: one", 1, () -> x.ticks(1));
        due("4: most", 100001, () -> x.ticks(100000));
        due("4: too many", ARGUMENT, () -> x.ticks(100001));
        due("4: below 0", ARGUMENT, () -> x.ticks(-1));
        due("4: lowest", ARGUMENT, () -> x.ticks(LOW));
        due("4: highest", ARGUMENT, () -> x.ticks(HIGH));
        due("4: unchanged", 100001, () -> x.count(0));
        for (int i = 2; i < 10; i++) x.ticks(100000);
        due("4: near the last", 900001, () -> x.count(0));
        due("4: the last", 1000000, () -> x.ticks(100000));
        due("4: stays", 1000000, () -> x.ticks(100000));
        due("4: stays at 1", 1000000, () -> x.ticks(1));
    }

    private static void act() {
        LogHunt x = at(50);
        due("5: an act", 0, () -> x.act(0, 0, 0, 0, 0));
        due("5: the highest of all", 1, () -> x.act(7, 30, 30, 15, 50));
        due("5: a double", -1, () -> x.act(7, 30, 30, 15, 50));
        due("5: another tick is none", 2, () -> x.act(7, 30, 30, 15, 49));
        due("5: another kind is none", 3, () -> x.act(6, 30, 30, 15, 50));
        due("5: another who is none", 4, () -> x.act(7, 29, 30, 15, 50));
        due("5: another what is none", 5, () -> x.act(7, 30, 29, 15, 50));
        due("5: another where is none", 6, () -> x.act(7, 30, 30, 14, 50));
        int[][] wrong = {{8, 0, 0, 0, 0}, {-1, 0, 0, 0, 0}, {0, 31, 0, 0, 0}, {0, -1, 0, 0, 0}, {0, 0, 31, 0, 0},
            {0, 0, -1, 0, 0}, {0, 0, 0, 16, 0}, {0, 0, 0, -1, 0}, {0, 0, 0, 0, 51}, {0, 0, 0, 0, -1},
            {LOW, 0, 0, 0, 0}, {0, HIGH, 0, 0, 0}, {0, 0, LOW, 0, 0}, {0, 0, 0, HIGH, 0}, {0, 0, 0, 0, LOW},
            {0, 0, 0, 0, HIGH}};
        for (int[] w : wrong) {
            due("5: wrong " + java.util.Arrays.toString(w), ARGUMENT, () -> x.act(w[0], w[1], w[2], w[3], w[4]));
        }
        due("5: none of these came", 7, () -> x.count(1));
        due("5: one double", 1, () -> x.count(2));
        x.ticks(10);
        due("5: told later it is a double still", -1, () -> x.act(0, 0, 0, 0, 0));
        due("5: told as at first", 50, () -> x.look(0, 5));
        due("5: twice", 2, () -> x.count(2));
    }

    private static void actsAtMost() {
        LogHunt x = at(300);
        for (int i = 0; i < 250; i++) {
            int tick = i;
            due("5: act " + i, i, () -> x.act(1, 2, 3, 4, tick));
        }
        due("5: full", FULL, () -> x.act(1, 2, 3, 4, 250));
        due("5: a double comes before full", -1, () -> x.act(1, 2, 3, 4, 249));
        due("5: a wrong one comes before full", ARGUMENT, () -> x.act(1, 2, 3, 4, 301));
        due("5: 250 stay", 250, () -> x.count(1));
        due("5: the last has a double", 1, () -> x.look(249, 6));
        due("5: 250 is none", BOUNDS, () -> x.look(250, 0));
        int q = Check.ask(x, "by where;kind 1;kind 1;kind 1;kind 1;kind 1;kind 1");
        due("5: all but five", 245, () -> x.finds(q, 300));
        due("5: the latest before", 248, () -> x.proof(q, 300, 244, 4));
        due("5: in one case", 245, () -> x.joined(q, 249));
    }

    private static void look() {
        LogHunt x = at(40);
        x.act(3, 21, 22, 13, 7);
        x.act(3, 21, 22, 13, 7);
        x.act(3, 21, 22, 13, 7);
        int[] parts = {3, 21, 22, 13, 7, 40, 2};
        for (int i = 0; i < parts.length; i++) {
            int what = i;
            due("6: part " + i, parts[i], () -> x.look(0, what));
        }
        x.ticks(5);
        x.act(1, 1, 1, 1, 45);
        due("6: told now", 45, () -> x.look(1, 5));
        due("6: no doubles", 0, () -> x.look(1, 6));
        due("6: part 7", NO_ELEMENT, () -> x.look(0, 7));
        due("6: part -1", NO_ELEMENT, () -> x.look(0, -1));
        due("6: act 2", BOUNDS, () -> x.look(2, 0));
        due("6: act -1", BOUNDS, () -> x.look(-1, 0));
        due("6: act highest", BOUNDS, () -> x.look(HIGH, 0));
        due("6: the act is told first", BOUNDS, () -> x.look(2, 9));
    }

    private static void may() {
        LogHunt x = new LogHunt();
        due("7: hunter 4", BOUNDS, () -> { x.may(4, 0); return 0; });
        due("7: hunter -1", BOUNDS, () -> { x.may(-1, 0); return 0; });
        due("7: the hunter is told first", BOUNDS, () -> { x.may(4, 8); return 0; });
        due("7: fields 8", ARGUMENT, () -> { x.may(0, 8); return 0; });
        due("7: fields -1", ARGUMENT, () -> { x.may(0, -1); return 0; });
        String[] fields = {"who", "what", "where"};
        for (int bits = 0; bits < 8; bits++) {
            for (int f = 0; f < 3; f++) {
                LogHunt y = new LogHunt();
                y.may(2, bits);
                Check.lay(y, "by " + fields[f] + ";kind 1 first");
                due("7: by " + fields[f] + " with " + bits, (bits >> f & 1) == 1 ? 0 : STATE, () -> y.ask(2));
                Check.lay(y, "by " + fields[f] + ";kind 1");
                due("7: another hunter", (bits >> f & 1) == 1 ? 1 : 0, () -> y.ask(3));
            }
        }
        String[] texts = {"by who;kind 1;kind 2 what 3", "by who;kind 1;not kind 2 what 3;kind 1",
            "by who;kind 1;not kind 2 what 3 within 4", "by who;kind 1;spread what 2 within 5"};
        for (String text : texts) {
            LogHunt y = new LogHunt();
            y.may(1, 5);
            Check.lay(y, text);
            due("7: may not: " + text, STATE, () -> y.ask(1));
            y.may(1, 3);
            Check.lay(y, text);
            due("7: may: " + text, 0, () -> y.ask(1));
            y.may(1, 0);
            due("7: what is asked stays", 0, () -> y.finds(0, 0));
        }
    }

    private static void ask() {
        LogHunt x = new LogHunt();
        for (int i = 0; i < 8; i++) {
            int number = i;
            Check.lay(x, "by who;kind " + i);
            due("8: question " + i, number, () -> x.ask(number % 4));
            due("8: the tape is used up", false, () -> x.end(1));
        }
        Check.lay(x, "by who;kind 1");
        due("8: full", FULL, () -> x.ask(0));
        due("8: used up by it", false, () -> x.end(1));
        due("8: 8 stay", 8, () -> x.count(3));
        due("8: no wrong byte", -1, x::fault);
        due("8: no question 8", BOUNDS, () -> x.finds(8, 0));
    }

    private static void asksInOrder() {
        LogHunt x = new LogHunt();
        for (int i = 0; i < 8; i++) Check.ask(x, "by who;kind 1");
        x.may(0, 6);
        Check.lay(x, "by whom;kind 1");
        due("8: no hunter comes first", BOUNDS, () -> x.ask(4));
        due("8: no hunter uses it up", false, () -> x.end(1));
        due("8: hunter -1", BOUNDS, () -> x.ask(-1));
        Check.lay(x, "by whom;kind 1");
        due("8: a wrong text comes next", ARGUMENT, () -> x.ask(0));
        due("8: a wrong text uses it up", false, () -> x.end(1));
        Check.lay(x, "by who;kind 1");
        due("8: what the hunter may not comes next", STATE, () -> x.ask(0));
        due("8: that uses it up", false, () -> x.end(1));
        Check.lay(x, "by what;kind 1");
        due("8: full comes last", FULL, () -> x.ask(0));
        due("8: the empty text", ARGUMENT, () -> x.ask(0));

        LogHunt y = new LogHunt();
        y.ticks(9);
        y.act(1, 1, 1, 1, 5);
        Check.lay(y, "by who;kind 1;kind 2;kind 9");
        due("8: wrong near its end", ARGUMENT, () -> y.ask(0));
        due("8: the next has nothing of it", 0, () -> Check.ask(y, "by who;kind 1"));
        due("8: one step alone", 1, () -> y.finds(0, 9));
        due("8: one act in the row", -1, () -> y.proof(0, 9, 0, 1));
        y.act(1, 1, 1, 2, 7);
        String[] wrong = {"by what;kind 1 who 3 what 3 where 3 first;not kind 2 within 3 x",
            "by who;kind 1;kind 1;kind 1;kind 1;kind 1;kind 1 x", "by who;kind 1;spread where 9 within 9 x",
            "by who;kind 1;not kind 2;not kind 1 within 99 x", "by who;kind 1 first x", ""};
        for (String text : wrong) {
            Check.lay(y, text);
            due("8: wrong: " + text, ARGUMENT, () -> y.ask(0));
            int q = Check.ask(y, "by who;kind 1");
            due("8: nothing is left of " + text, 2, () -> y.finds(q, 9));
        }
    }

    private static void fault() {
        LogHunt x = new LogHunt();
        due("9: ahead of any", -1, x::fault);
        Check.lay(x, "by who;kinds");
        due("9: wrong", ARGUMENT, () -> x.ask(0));
        due("9: where", 7, x::fault);
        due("9: it stays", 7, x::fault);
        Check.lay(x, "wrong");
        due("9: no hunter", BOUNDS, () -> x.ask(4));
        due("9: of the latest of a hunter", 7, x::fault);
        Check.lay(x, "by who;kind 1");
        due("9: right", 0, () -> x.ask(1));
        due("9: none", -1, x::fault);
        due("9: the empty text", ARGUMENT, () -> x.ask(2));
        due("9: its length", 0, x::fault);
        x.may(3, 0);
        Check.lay(x, "by who;kind 1");
        due("9: may not", STATE, () -> x.ask(3));
        due("9: that is no wrong byte", -1, x::fault);
    }

    private static void finds() {
        LogHunt x = with(100, new int[][] {{1, 1, 1, 1, 10}, {2, 1, 2, 2, 20}, {2, 2, 1, 1, 20}, {2, 1, 3, 3, 10}});
        int who = Check.ask(x, "by who;kind 1;kind 2");
        int what = Check.ask(x, "by what;kind 1;kind 2");
        int where = Check.ask(x, "by where;kind 1;kind 2");
        due("10: by who, not at the same tick", 1, () -> x.finds(who, 100));
        due("10: by who", 1, () -> x.found(who, 100, 0));
        due("10: by what", 2, () -> x.found(what, 100, 0));
        due("10: by where", 2, () -> x.found(where, 100, 0));
        due("10: by where alone", 1, () -> x.finds(where, 100));
        due("10: below 0", 0, () -> x.finds(who, -1));
        due("10: lowest", 0, () -> x.finds(who, LOW));
        due("10: highest", 1, () -> x.finds(who, HIGH));
        due("10: no question", BOUNDS, () -> x.finds(3, 100));
        due("10: question -1", BOUNDS, () -> x.finds(-1, 100));
        String[] conds = {"who 1", "what 2", "where 2", "who 1 what 2 where 2", "where 2 who 1"};
        for (String cond : conds) {
            LogHunt y = with(9, new int[][] {{2, 1, 2, 2, 5}, {2, 0, 0, 0, 6}, {1, 1, 2, 2, 7}});
            Check.ask(y, "by who;kind 2 " + cond);
            due("10: " + cond, 1, () -> y.finds(0, 9));
            due("10: the act with " + cond, 0, () -> y.found(0, 9, 0));
        }
        LogHunt z = with(9, new int[][] {{2, 1, 2, 2, 5}});
        for (String cond : new String[] {"who 2", "what 1", "where 0", "who 1 what 2 where 3", "who 0"}) {
            int q = Check.ask(z, "by who;kind 2 " + cond);
            due("10: not " + cond, 0, () -> z.finds(q, 9));
        }
    }

    private static void findsWithin() {
        LogHunt x = with(100, new int[][] {{1, 1, 0, 0, 10}, {2, 1, 0, 0, 25}, {3, 1, 0, 0, 60}});
        int[][] dues = {{14, 0}, {15, 1}, {16, 1}};
        for (int[] d : dues) {
            int q = Check.ask(x, "by who;kind 1;kind 2 within " + d[0]);
            due("10: within " + d[0], d[1], () -> x.finds(q, 100));
        }
        // each within is told from the act of the step without not before
        int q = Check.ask(x, "by who;kind 1;kind 2 within 15;kind 3 within 35");
        due("10: two withins", 1, () -> x.finds(q, 100));
        int r = Check.ask(x, "by who;kind 1;kind 2 within 15;kind 3 within 34");
        due("10: the latter too short", 0, () -> x.finds(r, 100));
        int s = Check.ask(x, "by who;kind 1;not kind 7;kind 2;not kind 6;kind 3 within 35");
        due("10: within behind a not", 1, () -> x.finds(s, 100));
        // an act that is near but ends no row itself does not help
        LogHunt y = with(100, new int[][] {{1, 1, 0, 0, 10}, {2, 1, 0, 0, 20}, {2, 1, 0, 0, 40}, {3, 1, 0, 0, 45}});
        int t = Check.ask(y, "by who;kind 1;kind 2 within 10;kind 3 within 10");
        due("10: near, but no row", 0, () -> y.finds(t, 100));
        int u = Check.ask(y, "by who;kind 1;kind 2 within 10;kind 3");
        due("10: far, and a row", 1, () -> y.proof(u, 100, 0, 1));
    }

    private static void findsNotBetween() {
        int[][] dues = {{9, 1}, {10, 1}, {11, 0}, {19, 0}, {20, 1}, {21, 1}};
        for (int[] d : dues) {
            LogHunt x = with(50, new int[][] {{1, 1, 0, 0, 10}, {2, 1, 0, 0, 20}, {3, 1, 0, 0, d[0]}});
            Check.ask(x, "by who;kind 1;not kind 3;kind 2");
            due("10: not at " + d[0], d[1], () -> x.finds(0, 50));
        }
        LogHunt x = with(50, new int[][] {{1, 1, 0, 0, 10}, {2, 1, 0, 0, 20}, {3, 2, 0, 0, 15}, {3, 1, 4, 0, 15}});
        Check.ask(x, "by who;kind 1;not kind 3 what 5;kind 2");
        due("10: another's, or another what, is none", 1, () -> x.finds(0, 50));
        Check.ask(x, "by who;kind 1;not kind 5;not kind 3 what 4;not kind 6;kind 2");
        due("10: one of several nots", 0, () -> x.finds(1, 50));
        // a later start behind the not is a row
        LogHunt y = with(50, new int[][] {{1, 1, 0, 0, 10}, {3, 1, 0, 0, 12}, {1, 1, 0, 0, 14}, {2, 1, 0, 0, 20}});
        Check.ask(y, "by who;kind 1;not kind 3;kind 2");
        due("10: a start behind the not", 2, () -> y.proof(0, 50, 0, 0));
        // the not belongs between its own two steps alone
        Check.ask(y, "by who;kind 1;kind 1;not kind 3;kind 2");
        due("10: between the first two it may be", 1, () -> y.finds(1, 50));
        Check.ask(y, "by who;kind 1;not kind 3;kind 1;kind 2");
        due("10: between these it may not", 0, () -> y.finds(2, 50));
    }

    private static void findsNotBehind() {
        int[][] dues = {{10, 1}, {11, 0}, {15, 0}, {16, 1}};
        for (int[] d : dues) {
            LogHunt x = with(50, new int[][] {{1, 1, 0, 0, 10}, {3, 1, 0, 0, d[0]}, {3, 2, 0, 0, 12}});
            Check.ask(x, "by who;kind 1;not kind 3 within 5");
            due("10: behind at " + d[0], d[1], () -> x.finds(0, 50));
        }
        LogHunt x = at(10);
        x.act(1, 1, 0, 0, 10);
        Check.ask(x, "by who;kind 1;not kind 3 within 5;not kind 4 within 7");
        due("10: too early to tell", 0, () -> x.finds(0, 16));
        due("10: early enough, though NOW is less", 1, () -> x.finds(0, 17));
        due("10: NOW", 0, () -> x.finds(0, 10));
        x.ticks(10);
        x.act(4, 1, 0, 0, 17);
        due("10: as known before", 1, () -> x.finds(0, 19));
        due("10: as known then", 0, () -> x.finds(0, 20));
        LogHunt y = with(50, new int[][] {{1, 1, 0, 0, 10}, {3, 1, 0, 0, 12}, {1, 1, 0, 0, 14}, {1, 1, 0, 0, 48}});
        Check.ask(y, "by who;kind 1;not kind 3 within 5");
        due("10: of three one stays", 1, () -> y.finds(0, 50));
        due("10: the one in the middle", 2, () -> y.found(0, 50, 0));
        due("10: and one more later", 2, () -> y.finds(0, 53));
    }

    private static void findsFirst() {
        LogHunt x = with(50, new int[][] {{1, 1, 1, 1, 20}, {1, 1, 1, 2, 20}, {1, 1, 1, 3, 30}, {1, 1, 2, 1, 40},
            {1, 2, 1, 1, 45}, {2, 1, 1, 1, 47}});
        Check.ask(x, "by who;kind 1 first");
        due("10: first of kind, who and what; two of one tick", 4, () -> x.finds(0, 50));
        Check.ask(x, "by who;kind 1 where 3 first");
        due("10: where does not make it first", 0, () -> x.finds(1, 50));
        x.ticks(10);
        x.act(1, 1, 1, 9, 5);
        due("10: told late, it was before", 3, () -> x.finds(0, 60));
        due("10: the late one is first", 6, () -> x.found(0, 60, 0));
        due("10: as known before", 4, () -> x.finds(0, 59));
        Check.ask(x, "by who;kind 1;kind 1 first");
        due("10: first in a later step", 3, () -> x.found(2, 60, 0));
        due("10: alone", 1, () -> x.finds(2, 60));
    }

    private static void findsSpread() {
        LogHunt x = with(50, new int[][] {{1, 1, 1, 1, 10}, {1, 1, 2, 1, 15}, {1, 1, 2, 2, 19}, {1, 1, 3, 1, 20},
            {1, 2, 4, 1, 18}, {2, 1, 5, 1, 18}});
        int[][] dues = {{2, 100, 3}, {3, 100, 1}, {4, 100, 0}, {3, 11, 1}, {3, 10, 0}, {2, 1, 0}, {2, 2, 1}};
        for (int[] d : dues) {
            LogHunt y = with(50, new int[][] {{1, 1, 1, 1, 10}, {1, 1, 2, 1, 15}, {1, 1, 2, 2, 19}, {1, 1, 3, 1, 20},
                {1, 2, 4, 1, 18}, {2, 1, 5, 1, 18}});
            Check.ask(y, "by who;kind 1;spread what " + d[0] + " within " + d[1]);
            due("10: spread " + d[0] + " within " + d[1], d[2], () -> y.finds(0, 50));
        }
        Check.ask(x, "by who;kind 2;kind 1;spread what 2 within 10");
        due("10: spread over acts that end no row", 2, () -> x.finds(0, 50));
        Check.ask(x, "by who;kind 1;kind 2;spread what 2 within 9");
        due("10: of the last step alone", 0, () -> x.finds(1, 50));
        Check.ask(x, "by who;kind 1 what 2;spread where 2 within 5");
        due("10: of acts with the conds", 1, () -> x.finds(2, 50));
        Check.ask(x, "by who;kind 1;spread who 2 within 100000");
        due("10: by and spread alike", 0, () -> x.finds(3, 50));
        Check.ask(x, "by where;kind 1;spread who 2 within 100");
        due("10: spread over who", 2, () -> x.finds(4, 50));
        LogHunt y = with(5, new int[][] {{1, 1, 1, 1, 0}, {1, 1, 2, 1, 0}});
        Check.ask(y, "by who;kind 1;spread what 2 within 100000");
        due("10: those of one tick see one another", 2, () -> y.finds(0, 5));
        Check.ask(y, "by who;kind 1;not kind 2 within 3;spread what 2 within 1");
        due("10: not behind, and spread", 2, () -> y.finds(1, 5));
    }

    private static void findsAsKnown() {
        LogHunt x = at(10);
        x.act(2, 1, 0, 0, 8);
        Check.ask(x, "by who;kind 1;kind 2");
        x.ticks(10);
        x.act(1, 1, 0, 0, 5);
        due("10: told late", 1, () -> x.finds(0, 20));
        due("10: not known yet", 0, () -> x.finds(0, 19));
        x.ticks(10);
        x.act(1, 1, 0, 0, 7);
        due("10: proof as known", 1, () -> x.proof(0, 29, 0, 0));
        due("10: proof as known later", 2, () -> x.proof(0, 30, 0, 0));
        x.act(2, 1, 0, 0, 30);
        due("10: told again at the same tick", 2, () -> x.finds(0, 30));
    }

    private static void found() {
        LogHunt x = with(50, new int[][] {{1, 1, 0, 0, 30}, {1, 2, 0, 0, 10}, {1, 3, 0, 0, 30}, {1, 4, 0, 0, 20}});
        Check.ask(x, "by who;kind 1");
        int[] order = {1, 3, 0, 2};
        for (int i = 0; i < order.length; i++) {
            int n = i;
            due("11: find " + i, order[i], () -> x.found(0, 50, n));
        }
        due("11: find 4", -1, () -> x.found(0, 50, 4));
        due("11: find -1", -1, () -> x.found(0, 50, -1));
        due("11: lowest", -1, () -> x.found(0, 50, LOW));
        due("11: highest", -1, () -> x.found(0, 50, HIGH));
        due("11: below 0", -1, () -> x.found(0, -1, 0));
        due("11: before they are known", -1, () -> x.found(0, 49, 0));
        due("11: no question", BOUNDS, () -> x.found(1, 50, 0));
        due("11: question -1", BOUNDS, () -> x.found(-1, 50, 0));
    }

    private static void proof() {
        LogHunt x = with(90, new int[][] {{1, 1, 0, 0, 10}, {1, 1, 1, 0, 12}, {1, 1, 2, 0, 12}, {2, 1, 0, 0, 20},
            {1, 1, 0, 0, 25}, {2, 1, 1, 0, 30}, {3, 1, 0, 0, 40}, {2, 1, 2, 0, 40}});
        int q = Check.ask(x, "by who;kind 1;kind 2;kind 3");
        int[] row = {4, 5, 6};
        for (int i = 0; i < 3; i++) {
            int at = i;
            due("12: the latest row, act " + i, row[i], () -> x.proof(q, 90, 0, at));
        }
        int r = Check.ask(x, "by who;kind 1 where 0;kind 2 within 12");
        due("12: of one tick the greatest number", 2, () -> x.proof(r, 90, 0, 0));
        due("12: the find itself comes last", 3, () -> x.proof(r, 90, 0, 1));
        // the latest one before the last binds the one before that
        int s = Check.ask(x, "by who;kind 1;kind 2 within 9;kind 3");
        due("12: what lies before is bound", 4, () -> x.proof(s, 90, 0, 0));
        int t = Check.ask(x, "by who;kind 1;not kind 1;kind 2 what 0;kind 3");
        due("12: nots are none of the row", 2, () -> x.proof(t, 90, 0, 0));
        due("12: nots are none of the row, act 1", 3, () -> x.proof(t, 90, 0, 1));
        due("12: nots are none of the row, act 2", 6, () -> x.proof(t, 90, 0, 2));
        due("12: nots are none of the row, act 3", -1, () -> x.proof(t, 90, 0, 3));
        due("12: act -1", -1, () -> x.proof(q, 90, 0, -1));
        due("12: act lowest", -1, () -> x.proof(q, 90, 0, LOW));
        due("12: act highest", -1, () -> x.proof(q, 90, 0, HIGH));
        due("12: find 1", -1, () -> x.proof(q, 90, 1, 0));
        due("12: find -1", -1, () -> x.proof(q, 90, -1, 0));
        due("12: find highest", -1, () -> x.proof(q, 90, HIGH, 0));
        due("12: not known yet", -1, () -> x.proof(q, 89, 0, 0));
        due("12: no question", BOUNDS, () -> x.proof(4, 90, 0, 0));
        due("12: question lowest", BOUNDS, () -> x.proof(LOW, 90, 0, 0));
    }

    private static void exempt() {
        LogHunt x = at(5);
        due("13: no question", BOUNDS, () -> x.exempt(0, 0, 0));
        Check.ask(x, "by who;kind 1");
        due("13: the question is told first", BOUNDS, () -> x.exempt(1, 31, 0));
        due("13: who 31", ARGUMENT, () -> x.exempt(0, 31, 0));
        due("13: who -1", ARGUMENT, () -> x.exempt(0, -1, 0));
        due("13: tick -1", ARGUMENT, () -> x.exempt(0, 0, -1));
        due("13: tick 1000001", ARGUMENT, () -> x.exempt(0, 0, 1000001));
        due("13: none is told", 0, () -> x.count(4));
        due("13: the highest", 1, () -> x.exempt(0, 30, 1000000));
        due("13: the least", 2, () -> x.exempt(0, 0, 0));
        due("13: the same again is told again", 3, () -> x.exempt(0, 0, 0));
        for (int n = 4; n <= 40; n++) {
            int want = n;
            due("13: number " + n, want, () -> x.exempt(0, 1, 2));
        }
        x.act(1, 7, 0, 0, 3);
        due("13: the 41st", -1, () -> x.exempt(0, 7, 5));
        due("13: it is not", 0, () -> x.spared(0, 5));
        due("13: wrong ones still throw", ARGUMENT, () -> x.exempt(0, 31, 5));
        due("13: 40 are told", 40, () -> x.count(4));
    }

    private static void spared() {
        LogHunt x = with(50, new int[][] {{1, 1, 0, 0, 10}, {1, 1, 0, 0, 20}, {1, 1, 0, 0, 21}, {1, 2, 0, 0, 10}});
        Check.ask(x, "by who;kind 1");
        Check.ask(x, "by who;kind 1");
        due("14: none", 0, () -> x.spared(0, 50));
        x.exempt(0, 1, 20);
        due("14: up to its tick", 2, () -> x.spared(0, 50));
        due("14: of its question alone", 0, () -> x.spared(1, 50));
        due("14: they are finds still", 4, () -> x.finds(0, 50));
        x.exempt(0, 1, 10);
        due("14: a shorter one takes nothing away", 2, () -> x.spared(0, 50));
        x.exempt(0, 1, 21);
        x.exempt(0, 2, 9);
        due("14: a longer one adds", 3, () -> x.spared(0, 50));
        due("14: before they are known", 0, () -> x.spared(0, 49));
        due("14: below 0", 0, () -> x.spared(0, -1));
        due("14: no question", BOUNDS, () -> x.spared(2, 50));
        LogHunt y = with(5, new int[][] {{1, 0, 0, 0, 0}});
        Check.ask(y, "by who;kind 1");
        due("14: at tick 0, none is told", 0, () -> y.spared(0, 5));
        y.exempt(0, 0, 0);
        due("14: at tick 0", 1, () -> y.spared(0, 5));
    }

    private static void gap() {
        LogHunt x = new LogHunt();
        due("15: 0", 0, () -> { x.gap(0); return x.count(5); });
        due("15: 100000", 100000, () -> { x.gap(100000); return x.count(5); });
        due("15: -1", ARGUMENT, () -> { x.gap(-1); return 0; });
        due("15: 100001", ARGUMENT, () -> { x.gap(100001); return 0; });
        due("15: unchanged", 100000, () -> x.count(5));
    }

    private static void cases() {
        LogHunt x = with(2000, new int[][] {{1, 1, 0, 1, 100}, {1, 1, 0, 2, 200}, {1, 2, 0, 2, 300}, {1, 3, 0, 3, 300},
            {1, 3, 0, 4, 401}, {1, 4, 1, 1, 100}});
        due("16: without questions", 0, x::cases);
        Check.ask(x, "by who;kind 1");
        due("16: by who, by where, through another", 3, x::cases);
        due("16: through others", 4, () -> x.joined(0, 0));
        x.gap(101);
        due("16: one more tick apart", 2, x::cases);
        x.gap(99);
        due("16: one less", 5, x::cases);
        x.gap(0);
        due("16: at the same tick", 5, x::cases);
        x.gap(100);
        x.exempt(0, 1, 200);
        due("16: without the exempt", 4, x::cases);
        due("16: no bridge", 1, () -> x.joined(0, 2));
        Check.ask(x, "by who;kind 1 who 1");
        due("16: another question has them still", 3, x::cases);
        x.ticks(1);
        x.act(1, 9, 9, 9, 2001);
        due("16: a new act", 4, x::cases);
        Check.ask(x, "by who;kind 1;not kind 2 within 5");
        due("16: NOW alone counts", 4, x::cases);
        x.act(1, 10, 9, 10, 1000);
        due("16: an act at the same tick", 5, x::cases);
        x.exempt(0, 10, 1000);
        due("16: exempt by one question alone", 5, x::cases);
        x.exempt(2, 10, 1000);
        due("16: exempt by both", 4, x::cases);
        x.ticks(4);
        due("16: 8, 2, and without the one told last 7", 17, () -> x.count(7));
        x.ticks(1);
        due("16: with that one", 18, () -> x.count(7));
        Check.ask(x, "by who;kind 1 who 10");
        due("16: a question more", 5, x::cases);
    }

    private static int[] state(LogHunt x) {
        int[] s = new int[60];
        int n = 0;
        for (int what = 0; what < 8; what++) s[n++] = x.count(what);
        s[n++] = x.cases();
        s[n++] = x.fault();
        for (int act = 0; act < 3; act++) for (int what = 0; what < 7; what++) s[n++] = x.look(act, what);
        for (int q = 0; q < 2; q++) {
            s[n++] = x.finds(q, 50);
            s[n++] = x.spared(q, 50);
            s[n++] = x.cost(q, 50);
            s[n++] = x.widest(q, 50);
            for (int act = 0; act < 3; act++) s[n++] = x.joined(q, act);
        }
        return s;
    }

    private static void throwsChangeNothing() {
        LogHunt x = with(50, new int[][] {{1, 1, 1, 1, 10}, {1, 1, 2, 1, 20}, {2, 1, 2, 2, 30}});
        Check.ask(x, "by who;kind 1");
        Check.ask(x, "by who;kind 1;kind 2");
        x.exempt(0, 1, 10);
        x.may(3, 4);
        x.feed(1, 2, 3, 4, 5);
        String before = java.util.Arrays.toString(state(x));
        Check.Call[] calls = {() -> x.ticks(-1), () -> x.ticks(100001), () -> x.act(8, 0, 0, 0, 0),
            () -> x.act(1, 1, 1, 1, 51), () -> x.look(3, 0), () -> x.look(0, 7), () -> { x.may(4, 0); return 0; },
            () -> { x.may(0, 8); return 0; }, () -> x.finds(2, 50), () -> x.found(-1, 50, 0), () -> x.proof(2, 50, 0, 0),
            () -> x.exempt(2, 1, 50), () -> x.exempt(0, 31, 50), () -> x.exempt(0, 1, 1000001), () -> x.spared(9, 50),
            () -> { x.gap(100001); return 0; }, () -> x.joined(2, 0), () -> x.joined(0, 3), () -> x.cost(2, 50),
            () -> x.widest(-1, 50)};
        for (int i = 0; i < calls.length; i++) {
            int n = i;
            due("throws: call " + i, true, () -> Check.answer(calls[n]).toString().startsWith("throws."));
            due("throws: nothing changed by call " + i, before, () -> java.util.Arrays.toString(state(x)));
        }
        due("throws: nor the tape", 40, () -> x.feed(1, 2, 3, 4, 5));
        due("throws: no hunter", BOUNDS, () -> x.ask(-1));
        due("throws: the tape is used up", 20, () -> x.feed(1, 2, 3, 4, 5));
        due("throws: nothing else", before, () -> java.util.Arrays.toString(state(x)));
        Check.lay(x, "by who;kind 1");
        due("throws: may not", STATE, () -> x.ask(3));
        due("throws: nothing else by that", before, () -> java.util.Arrays.toString(state(x)));
    }

    private static void joined() {
        LogHunt x = with(500, new int[][] {{1, 1, 0, 1, 100}, {2, 1, 0, 2, 150}, {2, 2, 0, 2, 160}, {2, 3, 0, 3, 160}});
        Check.ask(x, "by who;kind 1");
        Check.ask(x, "by who;kind 2");
        Check.ask(x, "by who;kind 2 who 1");
        due("17: finds of all questions, an act for each", 4, () -> x.joined(0, 0));
        due("17: by another question", 4, () -> x.joined(2, 1));
        due("17: alone", 1, () -> x.joined(1, 3));
        due("17: no find", 0, () -> x.joined(0, 1));
        due("17: no find of this question", 0, () -> x.joined(2, 2));
        x.exempt(1, 1, 200);
        due("17: exempt", 0, () -> x.joined(1, 1));
        due("17: not exempt by another question", 3, () -> x.joined(2, 1));
        due("17: no question", BOUNDS, () -> x.joined(3, 0));
        due("17: no act", BOUNDS, () -> x.joined(0, 4));
        due("17: act -1", BOUNDS, () -> x.joined(0, -1));
        due("17: question -1", BOUNDS, () -> x.joined(-1, 0));
        x.gap(49);
        due("17: after gap", 1, () -> x.joined(0, 0));
    }

    private static void cost() {
        LogHunt x = with(50, new int[][] {{1, 1, 1, 1, 10}, {1, 1, 1, 2, 20}, {1, 2, 1, 2, 20}, {2, 1, 1, 1, 30},
            {2, 2, 2, 2, 40}});
        Check.ask(x, "by who;kind 1;kind 2");
        due("18: the least", 2, () -> x.cost(0, 50));
        Check.ask(x, "by who;kind 1;kind 1 where 2;not kind 3;kind 1 first");
        due("18: not is none, first counts", 2, () -> x.cost(1, 50));
        Check.ask(x, "by who;kind 1;not kind 7 within 4");
        due("18: though there are no finds", 3, () -> x.cost(2, 50));
        Check.ask(x, "by who;kind 7;kind 1");
        due("18: none fits", 0, () -> x.cost(3, 50));
        due("18: not known yet", 0, () -> x.cost(0, 49));
        due("18: below 0", 0, () -> x.cost(0, -1));
        due("18: no question", BOUNDS, () -> x.cost(4, 50));
        x.ticks(1);
        x.act(1, 1, 1, 1, 5);
        due("18: first as known then", 2, () -> x.cost(1, 50));
        Check.ask(x, "by who;kind 1 who 1 first");
        due("18: first as known", 1, () -> x.cost(4, 51));
    }

    private static void widest() {
        LogHunt x = with(50, new int[][] {{1, 1, 1, 1, 10}, {1, 1, 2, 2, 20}, {1, 2, 3, 3, 20}, {2, 4, 4, 9, 5},
            {2, 4, 4, 8, 5}, {3, 30, 30, 15, 7}, {4, 0, 5, 0, 1}, {4, 0, 6, 0, 2}});
        Check.ask(x, "by who;kind 1");
        due("19: of several the first", 1, () -> x.widest(0, 50));
        Check.ask(x, "by who;kind 2");
        due("19: where", 2, () -> x.widest(1, 50));
        Check.ask(x, "by who;kind 3");
        due("19: all alike", 0, () -> x.widest(2, 50));
        Check.ask(x, "by who;kind 4");
        due("19: what", 1, () -> x.widest(3, 50));
        Check.ask(x, "by who;kind 5");
        due("19: without finds", -1, () -> x.widest(4, 50));
        due("19: not known yet", -1, () -> x.widest(0, 49));
        due("19: below 0", -1, () -> x.widest(0, -1));
        x.exempt(3, 0, 50);
        due("19: exempt ones too", 1, () -> x.widest(3, 50));
        due("19: no question", BOUNDS, () -> x.widest(5, 50));
    }

    private static void count() {
        LogHunt x = with(50, new int[][] {{1, 1, 1, 1, 50}, {1, 1, 1, 1, 50}, {1, 1, 2, 1, 49}, {2, 1, 1, 1, 0}});
        Check.ask(x, "by who;kind 1");
        Check.ask(x, "by who;kind 2");
        x.exempt(0, 1, 50);
        x.gap(7);
        int[] counts = {50, 3, 1, 2, 1, 7, 2, 3};
        for (int i = 0; i < counts.length; i++) {
            int what = i;
            due("20: count(" + i + ")", counts[i], () -> x.count(what));
        }
        due("20: 8", -1, () -> x.count(8));
        due("20: -1", -1, () -> x.count(-1));
        due("20: lowest", -1, () -> x.count(LOW));
        due("20: highest", -1, () -> x.count(HIGH));
        Check.ask(x, "by who;kind 1;not kind 3 within 5");
        due("20: finds NOW", 3, () -> x.count(7));
        x.ticks(5);
        due("20: finds NOW, later", 5, () -> x.count(7));
    }
}
