import java.util.Arrays;
import java.util.NoSuchElementException;

public final class LogHunt {
    public static final int NONE = -1;

    private static final int MOST_ACTS = 250;
    private static final int MOST_QUESTIONS = 8;
    private static final int MOST_STEPS = 6;
    private static final int MOST_EXEMPT = 40;
    private static final int MOST_BYTES = 400;
    private static final int BYTES_OF_A_FEED = 20;
    private static final int LAST_TICK = 1000000;
    private static final int LONGEST = 100000;
    private static final int HUNTERS = 4;
    private static final int ALL_FIELDS = 7;
    private static final int KINDS = 8;
    private static final int VALUES = 31;
    private static final int PLACES = 16;

    private static final int WHO = 0;
    private static final int WHAT = 1;
    private static final int WHERE = 2;
    private static final int FIELDS = 3;

    private final Tape tape;
    private final Reader reader;
    private final Log log;
    private final Sweep sweep;
    private final Cases joins;
    private final Question[] questions;
    private final int[] hunterFields;
    private final int[][] exemptUntil;
    private Question draft;
    private int questionCount;
    private int exemptTold;
    private int now;
    private int widestGap;
    private int firstWrong;
    private int changes;
    private int changesJoined;

    public LogHunt() {
        tape = new Tape();
        reader = new Reader(tape);
        log = new Log();
        sweep = new Sweep(log);
        joins = new Cases(log);
        questions = new Question[MOST_QUESTIONS];
        hunterFields = new int[HUNTERS];
        Arrays.fill(hunterFields, ALL_FIELDS);
        exemptUntil = new int[MOST_QUESTIONS][VALUES];
        for (int i = 0; i < MOST_QUESTIONS; i++) {
            Arrays.fill(exemptUntil[i], NONE);
        }
        draft = new Question();
        widestGap = 100;
        firstWrong = NONE;
        changesJoined = NONE;
    }

    public int feed(int a, int b, int c, int d, int e) {
        if (!tape.hasRoomFor(BYTES_OF_A_FEED)) {
            return NONE;
        }
        tape.put(a);
        tape.put(b);
        tape.put(c);
        tape.put(d);
        tape.put(e);
        return tape.length;
    }

    public boolean end(int n) {
        if (n < 0 || n > tape.length) {
            return false;
        }
        tape.length = n;
        return true;
    }

    public int ticks(int n) throws IllegalArgumentException {
        if (n < 0 || n > LONGEST) {
            throw new IllegalArgumentException("so many ticks cannot pass at once");
        }
        now = Math.min(now + n, LAST_TICK);
        changes++;
        return now;
    }

    public int act(int kind, int who, int what, int where, int tick)
            throws IllegalArgumentException, UnsupportedOperationException {
        if (!isBelow(kind, KINDS) || !isBelow(who, VALUES) || !isBelow(what, VALUES) || !isBelow(where, PLACES)) {
            throw new IllegalArgumentException("no such kind, who, what or where");
        }
        if (tick < 0 || tick > now) {
            throw new IllegalArgumentException("the tick is not 0 to now");
        }
        if (log.tookDouble(kind, who, what, where, tick)) {
            return NONE;
        }
        if (log.size >= MOST_ACTS) {
            throw new UnsupportedOperationException("there are 250 acts");
        }
        int number = log.size;
        log.add(new Act(number, kind, who, what, where, tick, now));
        changes++;
        return number;
    }

    public int look(int act, int what) throws IndexOutOfBoundsException, NoSuchElementException {
        Act seen = actAt(act);
        switch (what) {
            case 0: return seen.kind;
            case 1: return seen.who;
            case 2: return seen.what;
            case 3: return seen.where;
            case 4: return seen.tick;
            case 5: return seen.told;
            case 6: return seen.doubles;
            default: throw new NoSuchElementException("an act has no such part");
        }
    }

    public void may(int hunter, int fields) throws IndexOutOfBoundsException, IllegalArgumentException {
        if (!isBelow(hunter, HUNTERS)) {
            throw new IndexOutOfBoundsException("no such hunter");
        }
        if (fields < 0 || fields > ALL_FIELDS) {
            throw new IllegalArgumentException("no such fields");
        }
        hunterFields[hunter] = fields;
    }

    public int ask(int hunter) throws IndexOutOfBoundsException, IllegalArgumentException,
            IllegalStateException, UnsupportedOperationException {
        boolean isRight = reader.reads(draft);
        tape.length = 0;
        if (!isBelow(hunter, HUNTERS)) {
            throw new IndexOutOfBoundsException("no such hunter");
        }
        firstWrong = isRight ? NONE : reader.begin;
        if (!isRight) {
            throw new IllegalArgumentException("the text is wrong");
        }
        if ((draft.fieldBits & ~hunterFields[hunter]) != 0) {
            throw new IllegalStateException("the hunter may not ask about this field");
        }
        if (questionCount >= MOST_QUESTIONS) {
            throw new UnsupportedOperationException("there are 8 questions");
        }
        int number = questionCount;
        questions[number] = draft;
        draft = new Question();
        questionCount = number + 1;
        changes++;
        return number;
    }

    public int fault() {
        return firstWrong;
    }

    public int finds(int question, int tick) throws IndexOutOfBoundsException {
        return sweepOf(question, tick).findCount;
    }

    public int found(int question, int tick, int n) throws IndexOutOfBoundsException {
        Act last = sweepOf(question, tick).findAt(n);
        return last == null ? NONE : last.number;
    }

    public int proof(int question, int tick, int n, int i) throws IndexOutOfBoundsException {
        return sweepOf(question, tick).proofAct(n, i);
    }

    public int exempt(int question, int who, int until) throws IndexOutOfBoundsException, IllegalArgumentException {
        questionAt(question);
        if (!isBelow(who, VALUES) || until < 0 || until > LAST_TICK) {
            throw new IllegalArgumentException("no such who or tick");
        }
        if (exemptTold >= MOST_EXEMPT) {
            return NONE;
        }
        exemptUntil[question][who] = Math.max(exemptUntil[question][who], until);
        exemptTold++;
        changes++;
        return exemptTold;
    }

    public int spared(int question, int tick) throws IndexOutOfBoundsException {
        Sweep swept = sweepOf(question, tick);
        int sum = 0;
        for (int n = 0; n < swept.findCount; n++) {
            if (isExempt(question, swept.findAt(n))) {
                sum++;
            }
        }
        return sum;
    }

    public void gap(int n) throws IllegalArgumentException {
        if (n < 0 || n > LONGEST) {
            throw new IllegalArgumentException("no such gap");
        }
        widestGap = n;
        changes++;
    }

    public int cases() {
        joinFinds();
        return joins.caseCount;
    }

    public int joined(int question, int act) throws IndexOutOfBoundsException {
        questionAt(question);
        Act last = actAt(act);
        if (!sweepOf(question, now).isFind(last) || isExempt(question, last)) {
            return 0;
        }
        joinFinds();
        return joins.findsBeside(last);
    }

    public int cost(int question, int tick) throws IndexOutOfBoundsException {
        return sweepOf(question, tick).fewestFits();
    }

    public int widest(int question, int tick) throws IndexOutOfBoundsException {
        return sweepOf(question, tick).widestField();
    }

    public int count(int what) {
        switch (what) {
            case 0: return now;
            case 1: return log.size;
            case 2: return log.doubles;
            case 3: return questionCount;
            case 4: return exemptTold;
            case 5: return widestGap;
            case 6: return log.late;
            case 7:
                joinFinds();
                return joins.findCount;
            default: return NONE;
        }
    }

    private static boolean isBelow(int n, int bound) {
        return n >= 0 && n < bound;
    }

    private Act actAt(int number) {
        Act held = log.actAt(number);
        if (held == null) {
            throw new IndexOutOfBoundsException("no such act");
        }
        return held;
    }

    private Question questionAt(int number) {
        Question held = isBelow(number, MOST_QUESTIONS) ? questions[number] : null;
        if (held == null) {
            throw new IndexOutOfBoundsException("no such question");
        }
        return held;
    }

    private Sweep sweepOf(int question, int tick) {
        sweep.goOver(questionAt(question), question, tick);
        return sweep;
    }

    private boolean isExempt(int question, Act last) {
        return last != null && isBelow(question, MOST_QUESTIONS) && exemptUntil[question][last.who] >= last.tick;
    }

    private void joinFinds() {
        // Callers ask about one find after another: what was joined holds until a call changes something.
        if (changesJoined == changes) {
            return;
        }
        joins.clear();
        for (int q = 0; q < questionCount; q++) {
            gatherFinds(questions[q], q);
        }
        joins.join(widestGap);
        changesJoined = changes;
    }

    private void gatherFinds(Question asked, int number) {
        if (asked == null) {
            return;
        }
        sweep.goOver(asked, number, now);
        for (int n = 0; n < sweep.findCount; n++) {
            Act last = sweep.findAt(n);
            if (last != null) {
                joins.add(last, isExempt(number, last));
            }
        }
    }

    /** The bytes that wait to be asked. */
    private static final class Tape {
        final int[] bytes = new int[MOST_BYTES];
        int length;

        boolean hasRoomFor(int more) {
            return length + more <= MOST_BYTES;
        }

        void put(int number) {
            for (int shift = 24; shift >= 0 && length < MOST_BYTES; shift -= 8) {
                bytes[length] = (number >>> shift) & 255;
                length++;
            }
        }
    }

    private static final class Act {
        final int number;
        final int kind;
        final int who;
        final int what;
        final int where;
        final int tick;
        final int told;
        int doubles;
        /** The number of the ACT told first of those with this KIND, WHO and WHAT. */
        int family;

        Act(int number, int kind, int who, int what, int where, int tick, int told) {
            this.number = number;
            this.kind = kind;
            this.who = who;
            this.what = what;
            this.where = where;
            this.tick = tick;
            this.told = told;
            this.family = number;
        }

        int valueIn(int field) {
            return field == WHO ? who : field == WHAT ? what : where;
        }

        boolean isAlike(Act other) {
            return kind == other.kind && who == other.who && what == other.what;
        }
    }

    /** All ACTS, by their numbers and, for the sweeps, by TICK and number. */
    private static final class Log {
        final Act[] acts = new Act[MOST_ACTS];
        final Act[] byTick = new Act[MOST_ACTS];
        int size;
        int doubles;
        int late;

        Act actAt(int number) {
            return number >= 0 && number < size ? acts[number] : null;
        }

        boolean tookDouble(int kind, int who, int what, int where, int tick) {
            for (int i = 0; i < size; i++) {
                Act held = acts[i];
                if (held.tick == tick && held.kind == kind && held.who == who
                        && held.what == what && held.where == where) {
                    held.doubles++;
                    doubles++;
                    return true;
                }
            }
            return false;
        }

        void add(Act told) {
            if (size >= MOST_ACTS) {
                return;
            }
            told.family = familyOf(told);
            if (told.told > told.tick) {
                late++;
            }
            acts[size] = told;
            int place = size;
            for (; place > 0 && byTick[place - 1].tick > told.tick; place--) {
                byTick[place] = byTick[place - 1];
            }
            byTick[place] = told;
            size++;
        }

        private int familyOf(Act told) {
            for (int i = 0; i < size; i++) {
                if (acts[i].isAlike(told)) {
                    return i;
                }
            }
            return told.number;
        }

        /** NOW never falls, so the ACTS KNOWN at a tick are those with the lowest numbers. */
        int knownAt(int tick) {
            int known = size;
            for (; known > 0 && acts[known - 1].told > tick; known--) {
                continue;
            }
            return known;
        }
    }

    private static final class Step {
        int kind;
        int who;
        int what;
        int where;
        boolean not;
        boolean first;
        int within;
        /** How many STEPS without not stand ahead of it. */
        int rank;

        void clear(boolean isNot, int rankHere) {
            kind = 0;
            who = NONE;
            what = NONE;
            where = NONE;
            not = isNot;
            first = false;
            within = NONE;
            rank = rankHere;
        }

        boolean tells(int field) {
            return (field == WHO ? who : field == WHAT ? what : where) != NONE;
        }

        void tell(int field, int value) {
            if (field == WHO) {
                who = value;
            } else if (field == WHAT) {
                what = value;
            } else {
                where = value;
            }
        }

        /** FITS, but for what first asks: that hangs on the other ACTS. */
        boolean admits(Act a) {
            return a.kind == kind && (who == NONE || a.who == who)
                    && (what == NONE || a.what == what) && (where == NONE || a.where == where);
        }
    }

    private static final class Question {
        final Step[] steps = new Step[MOST_STEPS];
        int stepCount;
        /** How many STEPS are without not: a ROW has so many ACTS. */
        int rowLength;
        int by;
        int spreadField;
        int spreadLeast;
        int spreadWithin;
        int fieldBits;

        Question() {
            for (int i = 0; i < MOST_STEPS; i++) {
                steps[i] = new Step();
            }
        }

        void clear() {
            stepCount = 0;
            rowLength = 0;
            by = WHO;
            spreadField = NONE;
            spreadLeast = 0;
            spreadWithin = 0;
            fieldBits = 0;
        }

        void note(int field) {
            fieldBits |= 1 << field;
        }

        Step addStep(boolean not) {
            if (stepCount >= MOST_STEPS) {
                return null;
            }
            Step added = steps[stepCount];
            added.clear(not, rowLength);
            stepCount++;
            if (!not) {
                rowLength++;
            }
            return added;
        }
    }

    /** Reads the TAPE as a QUESTION, up to its first wrong byte. */
    private static final class Reader {
        private static final int END = 0;
        private static final int WORD = 1;
        private static final int NUMBER = 2;
        private static final int SEMICOLON = 3;
        private static final int OTHER = 4;
        private static final int MOST_DIGITS = 6;

        private final Tape tape;
        private int sort;
        /** Where the word, NUMBER or sign at hand begins: the first wrong byte, once reading stops. */
        private int begin;
        private int behind;
        /** Since the last STEP without not there was one with not, and within. */
        private boolean boundNot;
        /** Since the last STEP without not there was one with not, and no within. */
        private boolean looseNot;

        Reader(Tape tape) {
            this.tape = tape;
        }

        /** Whether the whole TAPE is right; the sign ahead of a part tells that more comes. */
        boolean reads(Question q) {
            if (!readsBy(q)) {
                return false;
            }
            for (int n = 0; n <= MOST_STEPS; n++) {
                if (n > 0 && sort == END) {
                    return !looseNot;
                }
                if (sort != SEMICOLON) {
                    return false;
                }
                int semicolon = begin;
                advance();
                if (n > 0 && isAt("spread")) {
                    return !looseNot && readsSpread(q);
                }
                if (n == MOST_STEPS) {
                    // Only a STEP makes the sign ahead of it wrong; another word is wrong by itself.
                    begin = isAt("kind") || isAt("not") ? semicolon : begin;
                    return false;
                }
                if (!readsStep(q, n == 0)) {
                    return false;
                }
            }
            return false;
        }

        private boolean readsBy(Question q) {
            q.clear();
            boundNot = false;
            looseNot = false;
            behind = 0;
            advance();
            if (!isAt("by")) {
                return false;
            }
            advance();
            q.by = fieldHere();
            if (q.by == NONE) {
                return false;
            }
            q.note(q.by);
            advance();
            return true;
        }

        private boolean readsStep(Question q, boolean opening) {
            boolean not = isAt("not");
            if (not) {
                if (opening) {
                    return false;
                }
                advance();
            }
            if (!isAt("kind") || (!not && boundNot)) {
                return false;
            }
            Step step = q.addStep(not);
            if (step == null) {
                return false;
            }
            advance();
            step.kind = numberHere(0, KINDS - 1);
            if (step.kind == NONE) {
                return false;
            }
            advance();
            return readsConds(q, step) && readsTail(step, opening);
        }

        private boolean readsConds(Question q, Step step) {
            for (int n = 0; n < FIELDS; n++) {
                int field = fieldHere();
                if (field == NONE || step.tells(field)) {
                    return true;
                }
                advance();
                int value = numberHere(0, field == WHERE ? PLACES - 1 : VALUES - 1);
                if (value == NONE) {
                    return false;
                }
                step.tell(field, value);
                q.note(field);
                advance();
            }
            return true;
        }

        /** A first or within that may not stand here is left: the next part then begins with no sign. */
        private boolean readsTail(Step step, boolean opening) {
            if (!step.not && isAt("first")) {
                step.first = true;
                advance();
            }
            if (!opening && isAt("within")) {
                advance();
                step.within = numberHere(1, LONGEST);
                if (step.within == NONE) {
                    return false;
                }
                advance();
            }
            boundNot = step.not && (boundNot || step.within != NONE);
            looseNot = step.not && (looseNot || step.within == NONE);
            return true;
        }

        private boolean readsSpread(Question q) {
            advance();
            q.spreadField = fieldHere();
            if (q.spreadField == NONE) {
                return false;
            }
            q.note(q.spreadField);
            advance();
            q.spreadLeast = numberHere(2, 30);
            if (q.spreadLeast == NONE) {
                return false;
            }
            advance();
            if (!isAt("within")) {
                return false;
            }
            advance();
            q.spreadWithin = numberHere(1, LONGEST);
            if (q.spreadWithin == NONE) {
                return false;
            }
            advance();
            return sort == END;
        }

        private int fieldHere() {
            return isAt("who") ? WHO : isAt("what") ? WHAT : isAt("where") ? WHERE : NONE;
        }

        private int numberHere(int least, int most) {
            if (sort != NUMBER || behind - begin > MOST_DIGITS) {
                return NONE;
            }
            int value = 0;
            for (int at = begin; at < behind && at < tape.length; at++) {
                value = value * 10 + tape.bytes[at] - '0';
            }
            return value >= least && value <= most ? value : NONE;
        }

        private boolean isAt(String word) {
            int length = word.length();
            if (sort != WORD || behind - begin != length) {
                return false;
            }
            for (int i = 0; i < length && begin + i < tape.length; i++) {
                if (tape.bytes[begin + i] != word.charAt(i)) {
                    return false;
                }
            }
            return true;
        }

        private void advance() {
            int at = behind;
            for (; at < tape.length && tape.bytes[at] == ' '; at++) {
                continue;
            }
            begin = at;
            sort = sortAt(at);
            boolean goesOn = sort == WORD || sort == NUMBER;
            for (at++; goesOn && at < tape.length && sortAt(at) == sort; at++) {
                continue;
            }
            behind = Math.min(at, tape.length);
        }

        private int sortAt(int at) {
            if (at < 0 || at >= tape.length) {
                return END;
            }
            int sign = tape.bytes[at];
            if (sign >= 'a' && sign <= 'z') {
                return WORD;
            }
            if (sign >= '0' && sign <= '9') {
                return NUMBER;
            }
            return sign == ';' ? SEMICOLON : OTHER;
        }
    }

    /**
     * The FINDS of one QUESTION at one tick, in one pass over the ACTS by TICK. Of two ACTS behind one another a ROW
     * only asks that the former is late enough: so of all that end the STEPS before, the latest one is good if any is,
     * and it is the one that PROOF wants.
     */
    private static final class Sweep {
        private static final int UNREACHED = -2;
        private static final int NEVER = 2 * LAST_TICK;
        private static final int LONG_AGO = -LAST_TICK;

        private final Log log;
        private final Act[] ends = new Act[MOST_ACTS];
        /** By rank and ACT: the ACT before it in its latest ROW so far, NONE at the first, or UNREACHED. */
        private final int[][] before = new int[MOST_STEPS][MOST_ACTS];
        private final int[] fits = new int[MOST_STEPS];
        /** By rank and value of by: the latest ACT reached, its TICK, and the latest TICK of a not ahead of it. */
        private final int[][] latestAct = new int[MOST_STEPS][VALUES];
        private final int[][] latestTick = new int[MOST_STEPS][VALUES];
        private final int[][] latestNot = new int[MOST_STEPS][VALUES];
        /** By STEP and value of by: going back, the next TICK of a not behind the last ACT. */
        private final int[][] nextNot = new int[MOST_STEPS][VALUES];
        /** By value of by and value of spread: the latest TICK of an ACT that FITS the last STEP. */
        private final int[][] spreadTick = new int[VALUES][VALUES];
        private final int[] familyTick = new int[MOST_ACTS];

        private Question question = new Question();
        private int questionNumber = NONE;
        private int asKnownAt;
        private int known;
        private int sizeSwept;
        private int findCount;

        Sweep(Log log) {
            this.log = log;
        }

        /** ACTS of one TICK are settled together, behind the last of them: none may count as before another. */
        void goOver(Question asked, int number, int tick) {
            // A QUESTION never changes, nor does an ACT: these three settle all answers.
            if (number == questionNumber && tick == asKnownAt && log.size == sizeSwept) {
                return;
            }
            question = asked;
            questionNumber = number;
            asKnownAt = tick;
            sizeSwept = log.size;
            known = log.knownAt(tick);
            clear();
            int start = 0;
            for (int i = 0; i < log.size; i++) {
                Act a = log.byTick[i];
                if (a.tick > log.byTick[start].tick) {
                    settle(start, i);
                    start = i;
                }
                if (a.number < known) {
                    reach(a);
                }
            }
            settle(start, log.size);
            dropDisturbed();
        }

        private void clear() {
            findCount = 0;
            Arrays.fill(fits, 0);
            Arrays.fill(familyTick, NONE);
            for (int r = 0; r < MOST_STEPS; r++) {
                Arrays.fill(latestAct[r], NONE);
                Arrays.fill(latestTick[r], NONE);
                Arrays.fill(latestNot[r], NONE);
                Arrays.fill(nextNot[r], NEVER);
            }
            for (int v = 0; v < VALUES && question.spreadField != NONE; v++) {
                Arrays.fill(spreadTick[v], LONG_AGO);
            }
        }

        private void reach(Act a) {
            if (familyTick[a.family] == NONE) {
                familyTick[a.family] = a.tick;
            }
            for (int s = 0; s < question.stepCount; s++) {
                Step step = question.steps[s];
                if (!step.not) {
                    before[step.rank][a.number] = reachAt(step, a);
                }
            }
        }

        private int reachAt(Step step, Act a) {
            if (!step.admits(a) || (step.first && familyTick[a.family] < a.tick)) {
                return UNREACHED;
            }
            fits[step.rank]++;
            int value = a.valueIn(question.by);
            if (step.rank == question.rowLength - 1 && question.spreadField != NONE) {
                spreadTick[value][a.valueIn(question.spreadField)] = a.tick;
            }
            return step.rank == 0 ? NONE : actAhead(step, a.tick, value);
        }

        private int actAhead(Step step, int tick, int value) {
            int tickAhead = latestTick[step.rank - 1][value];
            if (tickAhead == NONE || latestNot[step.rank][value] > tickAhead) {
                return UNREACHED;
            }
            boolean tooFar = step.within != NONE && tick - tickAhead > step.within;
            return tooFar ? UNREACHED : latestAct[step.rank - 1][value];
        }

        private void settle(int from, int to) {
            for (int i = from; i < to; i++) {
                Act a = log.byTick[i];
                if (a.number < known) {
                    settleSteps(a);
                    settleEnd(a);
                }
            }
        }

        private void settleSteps(Act a) {
            int value = a.valueIn(question.by);
            for (int s = 0; s < question.stepCount; s++) {
                Step step = question.steps[s];
                if (step.not) {
                    if (step.admits(a)) {
                        latestNot[step.rank][value] = a.tick;
                    }
                } else if (before[step.rank][a.number] != UNREACHED) {
                    latestAct[step.rank][value] = a.number;
                    latestTick[step.rank][value] = a.tick;
                }
            }
        }

        private void settleEnd(Act a) {
            int last = question.rowLength - 1;
            boolean endsRow = last >= 0 && before[last][a.number] != UNREACHED;
            if (endsRow && isSpread(a.tick, a.valueIn(question.by)) && findCount < MOST_ACTS) {
                ends[findCount] = a;
                findCount++;
            }
        }

        private boolean isSpread(int tick, int value) {
            if (question.spreadField == NONE) {
                return true;
            }
            int unlike = 0;
            for (int v = 0; v < VALUES; v++) {
                if (spreadTick[value][v] > tick - question.spreadWithin) {
                    unlike++;
                }
            }
            return unlike >= question.spreadLeast;
        }

        /** Goes back over the ACTS; the FINDS that stay gather at the row's far end, behind those not yet looked at. */
        private void dropDisturbed() {
            int last = question.stepCount - 1;
            if (last < 0 || !question.steps[last].not) {
                return;
            }
            int unseen = findCount;
            int stay = findCount;
            for (int i = log.size - 1; i >= 0; i--) {
                Act a = log.byTick[i];
                for (; unseen > 0 && ends[unseen - 1].tick >= a.tick; unseen--) {
                    if (isUndisturbed(ends[unseen - 1])) {
                        stay--;
                        ends[stay] = ends[unseen - 1];
                    }
                }
                if (a.number < known) {
                    noteNot(a);
                }
            }
            for (int n = stay; n < findCount; n++) {
                ends[n - stay] = ends[n];
            }
            findCount -= stay;
        }

        private boolean isBehindRow(Step step) {
            return step.not && step.rank == question.rowLength;
        }

        private boolean isUndisturbed(Act a) {
            int value = a.valueIn(question.by);
            for (int s = 0; s < question.stepCount; s++) {
                Step step = question.steps[s];
                int until = a.tick + step.within;
                if (isBehindRow(step) && (asKnownAt < until || nextNot[s][value] <= until)) {
                    return false;
                }
            }
            return true;
        }

        private void noteNot(Act a) {
            int value = a.valueIn(question.by);
            for (int s = 0; s < question.stepCount; s++) {
                Step step = question.steps[s];
                if (isBehindRow(step) && step.admits(a)) {
                    nextNot[s][value] = a.tick;
                }
            }
        }

        Act findAt(int n) {
            return n >= 0 && n < findCount ? ends[n] : null;
        }

        boolean isFind(Act a) {
            for (int n = 0; n < findCount; n++) {
                if (ends[n].number == a.number) {
                    return true;
                }
            }
            return false;
        }

        int proofAct(int n, int i) {
            Act last = findAt(n);
            if (last == null || i < 0 || i >= question.rowLength) {
                return NONE;
            }
            int number = last.number;
            for (int r = question.rowLength - 1; r > i && number >= 0; r--) {
                number = before[r][number];
            }
            return number;
        }

        int fewestFits() {
            int fewest = MOST_ACTS;
            for (int r = 0; r < question.rowLength; r++) {
                fewest = Math.min(fewest, fits[r]);
            }
            return fewest;
        }

        int widestField() {
            int best = NONE;
            int most = 0;
            for (int field = 0; field < FIELDS; field++) {
                int seen = 0;
                for (int n = 0; n < findCount; n++) {
                    seen |= 1 << ends[n].valueIn(field);
                }
                if (Integer.bitCount(seen) > most) {
                    most = Integer.bitCount(seen);
                    best = field;
                }
            }
            return best;
        }
    }

    /** All FINDS NOW, joined. Those that are one ACT are always joined, so ACTS are joined, each with its weight. */
    private static final class Cases {
        private final Log log;
        /** By ACT: how many FINDS it is that are not EXEMPT. */
        private final int[] weight = new int[MOST_ACTS];
        private final int[] parent = new int[MOST_ACTS];
        private final int[] caseWeight = new int[MOST_ACTS];
        private final Act[] latestOfWho = new Act[VALUES];
        private final Act[] latestOfWhere = new Act[PLACES];
        private int findCount;
        private int caseCount;

        Cases(Log log) {
            this.log = log;
        }

        void clear() {
            findCount = 0;
            caseCount = 0;
            Arrays.fill(weight, 0);
            Arrays.fill(caseWeight, 0);
            for (int i = 0; i < MOST_ACTS; i++) {
                parent[i] = i;
            }
            for (int v = 0; v < VALUES; v++) {
                latestOfWho[v] = null;
            }
            for (int v = 0; v < PLACES; v++) {
                latestOfWhere[v] = null;
            }
        }

        void add(Act find, boolean isExempt) {
            findCount++;
            if (!isExempt) {
                weight[find.number]++;
            }
        }

        /** By TICK, an ACT too far from the latest of its WHO or WHERE is too far from all the earlier ones. */
        void join(int widestGap) {
            for (int i = 0; i < log.size; i++) {
                Act a = log.byTick[i];
                if (weight[a.number] > 0) {
                    link(latestOfWho[a.who], a, widestGap);
                    link(latestOfWhere[a.where], a, widestGap);
                    latestOfWho[a.who] = a;
                    latestOfWhere[a.where] = a;
                }
            }
            for (int n = 0; n < log.size; n++) {
                if (weight[n] > 0 && parent[n] == n) {
                    caseCount++;
                }
                caseWeight[rootOf(n)] += weight[n];
            }
        }

        private void link(Act earlier, Act later, int widestGap) {
            if (earlier != null && later.tick - earlier.tick <= widestGap) {
                parent[rootOf(later.number)] = rootOf(earlier.number);
            }
        }

        private int rootOf(int number) {
            int root = number;
            for (int i = 0; i < MOST_ACTS && parent[root] != root; i++) {
                parent[root] = parent[parent[root]];
                root = parent[root];
            }
            return root;
        }

        int findsBeside(Act find) {
            return caseWeight[rootOf(find.number)];
        }
    }
}
