import java.util.Random;

/** Runs of random calls, the same at each start, on LogHunt and on Naive: all answers must be alike. */
public final class RandomRunsTest {
    private static final int[] ODD = {-1, Integer.MIN_VALUE, Integer.MAX_VALUE, 8, 31, 16, 4, 250, 1000001, 100001};

    private final Random dice;
    private final LogHunt hunt = new LogHunt();
    private final Naive naive = new Naive();
    private final int run;
    private final int kinds, people, things, places, span, mostActs, calls;
    private final StringBuilder story = new StringBuilder();

    private RandomRunsTest(int run) {
        this.run = run;
        dice = new Random(run * 7919L + 13);
        // now and then many acts, of so many sorts that the naive one still ends
        boolean large = run % 20 == 19;
        kinds = large ? 8 : 1 + dice.nextInt(4);
        people = large ? 10 + dice.nextInt(21) : 1 + dice.nextInt(4);
        things = large ? 10 + dice.nextInt(21) : 1 + dice.nextInt(4);
        places = large ? 6 + dice.nextInt(10) : 1 + dice.nextInt(4);
        span = 1 + dice.nextInt(dice.nextBoolean() ? 8 : 60);
        mostActs = large ? 250 : dice.nextInt(4) == 0 ? 40 : 16;
        calls = large ? 1100 : 300;
    }

    public static void main(String[] args) {
        int runs = args.length > 0 ? Integer.parseInt(args[0]) : 1500;
        for (int run = 0; run < runs && Check.isAllRight(); run++) {
            RandomRunsTest one = new RandomRunsTest(run);
            for (int i = 0; i < one.calls && Check.isAllRight(); i++) one.call();
            if (!Check.isAllRight()) System.out.println(one.story);
        }
        Check.close("RandomRunsTest");
    }

    private void both(String what, Check.Call ours, Check.Call theirs) {
        Object want = Check.answer(theirs);
        story.append(what).append(" -> ").append(want).append('\n');
        Check.due("run " + run + ": " + what, want, ours);
    }

    private int some(int bound) {
        return dice.nextInt(60) == 0 ? ODD[dice.nextInt(ODD.length)] : dice.nextInt(bound);
    }

    private int someQuestion() {
        return some(Math.max(1, naive.questions.size() + (dice.nextInt(20) == 0 ? 1 : 0)));
    }

    private int someTick() {
        return dice.nextInt(3) == 0 ? naive.now : dice.nextInt(40) == 0 ? ODD[dice.nextInt(ODD.length)]
                : dice.nextInt(naive.now + 2 * span);
    }

    private void call() {
        int c = dice.nextInt(100);
        if (c < 12) ticks();
        else if (c < 36) act();
        else if (c < 46) ask();
        else if (c < 51) exempt();
        else if (c < 53) gap();
        else if (c < 55) may();
        else if (c < 57) look();
        else if (c < 59) tape();
        else answers();
    }

    private void ticks() {
        int n = some(span);
        both("ticks(" + n + ")", () -> hunt.ticks(n), () -> naive.ticks(n));
    }

    private void act() {
        if (naive.acts.size() >= mostActs) return;
        int k = some(kinds), who = some(people), what = some(things), where = some(places);
        int t = dice.nextInt(4) == 0 ? naive.now : some(naive.now + 1);
        both("act(" + k + ", " + who + ", " + what + ", " + where + ", " + t + ")",
                () -> hunt.act(k, who, what, where, t), () -> naive.act(k, who, what, where, t));
    }

    private void ask() {
        String text = new Texts(dice, kinds, people, things, places, span).text();
        if (dice.nextInt(6) == 0) text = Texts.spoil(text, dice);
        String laid = text.length() > 400 ? text.substring(0, 400) : text;
        int hunter = some(4);
        Check.lay(hunt, laid);
        Check.lay(naive, laid);
        both("ask(" + hunter + ") of '" + laid + "'", () -> hunt.ask(hunter), () -> naive.ask(hunter));
        both("fault()", hunt::fault, () -> naive.fault);
    }

    private void exempt() {
        int q = someQuestion(), who = some(people), until = someTick();
        both("exempt(" + q + ", " + who + ", " + until + ")",
                () -> hunt.exempt(q, who, until), () -> naive.exempt(q, who, until));
    }

    private void gap() {
        int n = some(dice.nextBoolean() ? 3 : span + 1);
        both("gap(" + n + ")", () -> { hunt.gap(n); return 0; }, () -> { naive.gap(n); return 0; });
    }

    private void may() {
        int h = some(4), f = dice.nextInt(3) == 0 ? some(9) : 7;
        both("may(" + h + ", " + f + ")", () -> { hunt.may(h, f); return 0; }, () -> { naive.may(h, f); return 0; });
    }

    private void look() {
        int a = some(naive.acts.size() + 1), w = some(8);
        both("look(" + a + ", " + w + ")", () -> hunt.look(a, w), () -> naive.look(a, w));
    }

    private void tape() {
        int a = dice.nextInt(), n = some(420);
        both("feed(" + a + ", 0, 0, 0, 1)", () -> hunt.feed(a, 0, 0, 0, 1), () -> naive.feed(a, 0, 0, 0, 1));
        both("end(" + n + ")", () -> hunt.end(n), () -> naive.end(n));
    }

    private void answers() {
        int q = someQuestion(), t = someTick();
        switch (dice.nextInt(9)) {
            case 0 -> both("finds(" + q + ", " + t + ")", () -> hunt.finds(q, t), () -> naive.finds(q, t));
            case 1 -> {
                int n = some(5);
                both("found(" + q + ", " + t + ", " + n + ")", () -> hunt.found(q, t, n), () -> naive.found(q, t, n));
            }
            case 2, 3 -> {
                int n = some(5);
                for (int j = -1; j < 7; j++) {
                    int i = j;
                    both("proof(" + q + ", " + t + ", " + n + ", " + i + ")",
                            () -> hunt.proof(q, t, n, i), () -> naive.proof(q, t, n, i));
                }
            }
            case 4 -> both("spared(" + q + ", " + t + ")", () -> hunt.spared(q, t), () -> naive.spared(q, t));
            case 5 -> both("cost(" + q + ", " + t + ")", () -> hunt.cost(q, t), () -> naive.cost(q, t));
            case 6 -> both("widest(" + q + ", " + t + ")", () -> hunt.widest(q, t), () -> naive.widest(q, t));
            case 7 -> {
                int a = some(naive.acts.size() + 1);
                both("cases()", hunt::cases, naive::cases);
                both("joined(" + q + ", " + a + ")", () -> hunt.joined(q, a), () -> naive.joined(q, a));
            }
            default -> {
                int w = some(9);
                both("count(" + w + ")", () -> hunt.count(w), () -> naive.count(w));
            }
        }
    }
}
