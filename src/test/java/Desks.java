/** What the tests of single calls share: the names of what is thrown, and desks with ACTS told. */
abstract class Desks {
    static final String BOUNDS = "throws.IndexOutOfBoundsException";
    static final String ARGUMENT = "throws.IllegalArgumentException";
    static final String STATE = "throws.IllegalStateException";
    static final String FULL = "throws.UnsupportedOperationException";
    static final String NO_ELEMENT = "throws.NoSuchElementException";
    static final int LOW = Integer.MIN_VALUE;
    static final int HIGH = Integer.MAX_VALUE;
    static final int NONE = -1;

    static int[] act(int kind, int who, int what, int where, int tick) {
        return new int[] {kind, who, what, where, tick};
    }

    static LogHunt at(int tick) {
        LogHunt x = new LogHunt();
        go(x, tick);
        return x;
    }

    static void go(LogHunt x, int ticks) {
        for (int left = ticks; left > 0; left -= 100000) {
            x.ticks(Math.min(left, 100000));
        }
    }

    static LogHunt with(int tick, int[]... acts) {
        LogHunt x = at(tick);
        tell(x, acts);
        return x;
    }

    static void tell(LogHunt x, int[]... acts) {
        for (int[] a : acts) {
            x.act(a[0], a[1], a[2], a[3], a[4]);
        }
    }

    static String may(LogHunt x, int hunter, int fields) {
        return Check.answer(() -> {
            x.may(hunter, fields);
            return "may";
        }).toString();
    }

    static String gap(LogHunt x, int n) {
        return Check.answer(() -> {
            x.gap(n);
            return "gap";
        }).toString();
    }
}
