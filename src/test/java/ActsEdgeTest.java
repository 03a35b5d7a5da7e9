/** The document's first part, ACTS, at its edges: each sentence by a method of its own. */
public final class ActsEdgeTest extends Edges {
    public static void main(String[] args) {
        hold(ActsEdgeTest.class, args);
    }

    @Says("ACTS (at most 250, numbered from 0 on)")
    private static void atMost250() {
        LogHunt x = at(250);
        for (int i = 0; i < 250; i++) {
            int n = i;
            due(n, () -> x.act(0, 0, 0, 0, n));
        }
        due(FULL, () -> x.act(0, 0, 0, 0, 250));
        due(250, () -> x.count(1));
        due(249, () -> x.look(249, 4));
        due(BOUNDS, () -> x.look(250, 4));
    }

    @Says("a KIND (0 to 7)")
    private static void kinds() {
        LogHunt x = new LogHunt();
        due(0, () -> x.act(0, 1, 1, 1, 0));
        due(1, () -> x.act(7, 1, 1, 1, 0));
        dueAll(ARGUMENT, () -> x.act(-1, 1, 1, 1, 0), () -> x.act(8, 1, 1, 1, 0), () -> x.act(LOW, 1, 1, 1, 0),
            () -> x.act(HIGH, 1, 1, 1, 0), () -> x.act(256, 1, 1, 1, 0));
        due(2, () -> x.count(1));
        due(7, () -> x.look(1, 0));
    }

    @Says("WHO (0 to 30)")
    private static void whos() {
        LogHunt x = new LogHunt();
        due(0, () -> x.act(1, 0, 1, 1, 0));
        due(1, () -> x.act(1, 30, 1, 1, 0));
        dueAll(ARGUMENT, () -> x.act(1, -1, 1, 1, 0), () -> x.act(1, 31, 1, 1, 0), () -> x.act(1, LOW, 1, 1, 0),
            () -> x.act(1, HIGH, 1, 1, 0), () -> x.act(1, 32, 1, 1, 0));
        due(2, () -> x.count(1));
        due(30, () -> x.look(1, 1));
    }

    @Says("WHAT (0 to 30)")
    private static void whats() {
        LogHunt x = new LogHunt();
        due(0, () -> x.act(1, 1, 0, 1, 0));
        due(1, () -> x.act(1, 1, 30, 1, 0));
        dueAll(ARGUMENT, () -> x.act(1, 1, -1, 1, 0), () -> x.act(1, 1, 31, 1, 0), () -> x.act(1, 1, LOW, 1, 0),
            () -> x.act(1, 1, HIGH, 1, 0), () -> x.act(1, 1, 32, 1, 0));
        due(2, () -> x.count(1));
        due(30, () -> x.look(1, 2));
    }

    @Says("WHERE (0 to 15)")
    private static void wheres() {
        LogHunt x = new LogHunt();
        due(0, () -> x.act(1, 1, 1, 0, 0));
        due(1, () -> x.act(1, 1, 1, 15, 0));
        dueAll(ARGUMENT, () -> x.act(1, 1, 1, -1, 0), () -> x.act(1, 1, 1, 16, 0), () -> x.act(1, 1, 1, LOW, 0),
            () -> x.act(1, 1, 1, HIGH, 0), () -> x.act(1, 1, 1, 30, 0));
        due(2, () -> x.count(1));
        due(15, () -> x.look(1, 3));
    }

    @Says("a TICK, which is NOW at most")
    private static void tickIsNowAtMost() {
        LogHunt x = new LogHunt();
        due(0, () -> x.act(1, 1, 1, 1, 0));
        due(ARGUMENT, () -> x.act(1, 1, 1, 1, 1));
        go(x, 5);
        due(1, () -> x.act(1, 1, 1, 1, 5));
        due(ARGUMENT, () -> x.act(1, 1, 1, 1, 6));
        go(x, 999995);
        due(2, () -> x.act(1, 1, 1, 1, 1000000));
        due(ARGUMENT, () -> x.act(1, 1, 1, 1, 1000001));
        due(ARGUMENT, () -> x.act(1, 1, 1, 1, HIGH));
        due(3, () -> x.count(1));
    }

    @Says("and TOLD: NOW as it is told")
    private static void toldIsNow() {
        LogHunt x = new LogHunt();
        x.act(1, 1, 1, 1, 0);
        due(0, () -> x.look(0, 5));
        go(x, 12);
        x.act(1, 1, 1, 1, 3);
        due(12, () -> x.look(1, 5));
        go(x, 999988);
        x.act(1, 1, 1, 1, 5);
        due(1000000, () -> x.look(2, 5));
        due(12, () -> x.look(1, 5));
    }

    @Says("One that has all five alike with one that there is, is a DOUBLE: it does not come.")
    private static void doubles() {
        LogHunt x = with(20, act(1, 2, 3, 4, 5), act(2, 2, 3, 4, 5));
        due(NONE, () -> x.act(1, 2, 3, 4, 5));
        due(NONE, () -> x.act(2, 2, 3, 4, 5));
        due(2, () -> x.count(1));
        due(2, () -> x.act(0, 2, 3, 4, 5));
        due(3, () -> x.act(1, 1, 3, 4, 5));
        due(4, () -> x.act(1, 2, 2, 4, 5));
        due(5, () -> x.act(1, 2, 3, 3, 5));
        due(6, () -> x.act(1, 2, 3, 4, 4));
        // TOLD is none of the five
        x.ticks(1);
        due(NONE, () -> x.act(1, 2, 3, 4, 5));
        due(20, () -> x.look(0, 5));
        due(7, () -> x.count(1));
        int q = Check.ask(x, "by who;kind 1 what 3 where 4 who 2");
        due(2, () -> x.finds(q, 21));
    }

    @Says("NOW is 0 at first, 1000000 at last.")
    private static void nowAtLast() {
        LogHunt x = new LogHunt();
        due(0, () -> x.count(0));
        go(x, 999999);
        due(999999, () -> x.count(0));
        due(1000000, () -> x.ticks(1));
        due(1000000, () -> x.ticks(1));
        due(1000000, () -> x.ticks(100000));
        due(1000000, () -> x.ticks(0));
        due(1000000, () -> x.count(0));
        LogHunt y = at(999999);
        due(1000000, () -> y.ticks(100000));
        due(1000000, () -> y.count(0));
    }

    @Says("KNOWN at a tick K is each ACT with TOLD not above K.")
    private static void knownFromTold() {
        LogHunt x = new LogHunt();
        int q = Check.ask(x, "by who;kind 1");
        x.act(1, 1, 1, 1, 0);
        due(0, () -> x.finds(q, -1));
        due(1, () -> x.finds(q, 0));
        go(x, 20);
        x.act(1, 1, 1, 1, 5);
        due(1, () -> x.finds(q, 5));
        due(1, () -> x.finds(q, 19));
        due(2, () -> x.finds(q, 20));
        due(2, () -> x.finds(q, 21));
        go(x, 999980);
        x.act(1, 1, 1, 1, 20);
        due(2, () -> x.finds(q, 999999));
        due(3, () -> x.finds(q, 1000000));
        due(3, () -> x.finds(q, HIGH));
        due(0, () -> x.finds(q, LOW));
    }
}
