import java.util.ArrayList;
import java.util.Comparator;
import java.util.HashSet;
import java.util.List;
import java.util.NoSuchElementException;
import java.util.Set;
import java.util.regex.Matcher;
import java.util.regex.Pattern;

/** The document, word for word and as slowly as it likes: every ROW is tried. RandomRunsTest holds LogHunt against it. */
final class Naive {
    static final class Act {
        int number, kind, who, what, where, tick, told, doubles;

        int in(String field) {
            return switch (field) {
                case "who" -> who;
                case "what" -> what;
                case "where" -> where;
                default -> throw new AssertionError(field);
            };
        }
    }

    record Step(boolean not, int kind, Integer who, Integer what, Integer where, boolean first, Integer within) { }

    record Spread(String field, int least, int within) { }

    record Question(String by, List<Step> steps, Spread spread, int fields) { }

    record Exempt(int question, int who, int until) { }

    record Find(int question, Act act) { }

    final List<Act> acts = new ArrayList<>();
    final List<Question> questions = new ArrayList<>();
    final List<Exempt> exempts = new ArrayList<>();
    final int[] may = {7, 7, 7, 7};
    byte[] tape = new byte[0];
    int now, gap = 100, fault = -1, doubles;

    int feed(int a, int b, int c, int d, int e) {
        if (tape.length + 20 > 400) return -1;
        java.nio.ByteBuffer more = java.nio.ByteBuffer.allocate(tape.length + 20).put(tape);
        more.putInt(a).putInt(b).putInt(c).putInt(d).putInt(e);
        tape = more.array();
        return tape.length;
    }

    boolean end(int n) {
        if (n < 0 || n > tape.length) return false;
        tape = java.util.Arrays.copyOf(tape, n);
        return true;
    }

    int ticks(int n) {
        if (n < 0 || n > 100000) throw new IllegalArgumentException();
        now = Math.min(1000000, now + n);
        return now;
    }

    int act(int kind, int who, int what, int where, int tick) {
        if (kind < 0 || kind > 7 || who < 0 || who > 30 || what < 0 || what > 30 || where < 0 || where > 15
                || tick < 0 || tick > now) throw new IllegalArgumentException();
        for (Act a : acts) {
            if (a.kind == kind && a.who == who && a.what == what && a.where == where && a.tick == tick) {
                a.doubles++;
                doubles++;
                return -1;
            }
        }
        if (acts.size() == 250) throw new UnsupportedOperationException();
        Act a = new Act();
        a.number = acts.size();
        a.kind = kind;
        a.who = who;
        a.what = what;
        a.where = where;
        a.tick = tick;
        a.told = now;
        acts.add(a);
        return a.number;
    }

    int look(int act, int what) {
        if (act < 0 || act >= acts.size()) throw new IndexOutOfBoundsException();
        Act a = acts.get(act);
        int[] parts = {a.kind, a.who, a.what, a.where, a.tick, a.told, a.doubles};
        if (what < 0 || what > 6) throw new NoSuchElementException();
        return parts[what];
    }

    void may(int hunter, int fields) {
        if (hunter < 0 || hunter > 3) throw new IndexOutOfBoundsException();
        if (fields < 0 || fields > 7) throw new IllegalArgumentException();
        may[hunter] = fields;
    }

    int ask(int hunter) {
        String text = new String(tape, java.nio.charset.StandardCharsets.ISO_8859_1);
        tape = new byte[0];
        if (hunter < 0 || hunter > 3) throw new IndexOutOfBoundsException();
        fault = firstWrong(text);
        if (fault != -1) throw new IllegalArgumentException();
        Question q = parse(text);
        if ((q.fields & ~may[hunter]) != 0) throw new IllegalStateException();
        if (questions.size() == 8) throw new UnsupportedOperationException();
        questions.add(q);
        return questions.size() - 1;
    }

    // ---- texts: tokens become single letters, and a regular expression tells whether more could still come

    private static final Pattern TOKEN = Pattern.compile(" *([a-z]+|[0-9]+|[^ ])");
    private static final String NUMBER_TO_7 = "[012]", TO_15 = "[0123]", TO_30 = "[01234]";
    private static final String SPREAD_NUMBER = "[234]", WITHIN = "w[12345]";
    private static final String FIELD = "[hte]";
    private static final String CONDS = conds();
    private static final String STEP = "k" + NUMBER_TO_7 + CONDS + "f?(?:" + WITHIN + ")?";
    private static final String FIRST_STEP = "k" + NUMBER_TO_7 + CONDS + "f?";
    private static final String NOT_STEP = "nk" + NUMBER_TO_7 + CONDS + "(?:" + WITHIN + ")?";
    private static final Pattern TEXT = Pattern.compile("b" + FIELD + ";" + FIRST_STEP
            + "(?:;(?:" + STEP + "|" + NOT_STEP + ")){0,5}(?:;s" + FIELD + SPREAD_NUMBER + WITHIN + ")?");

    private static String conds() {
        String[] c = {"h" + TO_30, "t" + TO_30, "e" + TO_15};
        int[][] orders = {{0, 1, 2}, {0, 2, 1}, {1, 0, 2}, {1, 2, 0}, {2, 0, 1}, {2, 1, 0}};
        StringBuilder all = new StringBuilder("(?:");
        for (int[] o : orders) all.append(c[o[0]]).append(c[o[1]]).append(c[o[2]]).append('|');
        for (int i = 0; i < 3; i++) for (int j = 0; j < 3; j++) if (i != j) all.append(c[i]).append(c[j]).append('|');
        return all.append(c[0]).append('|').append(c[1]).append('|').append(c[2]).append("|)").toString();
    }

    private static char letter(String token) {
        if (Character.isDigit(token.charAt(0)) && token.charAt(0) < 128) {
            if (token.length() > 6) return '9';
            int v = Integer.parseInt(token);
            return v == 0 ? '0' : v == 1 ? '1' : v <= 7 ? '2' : v <= 15 ? '3' : v <= 30 ? '4' : v <= 100000 ? '5' : '6';
        }
        return switch (token) {
            case "by" -> 'b';
            case "who" -> 'h';
            case "what" -> 't';
            case "where" -> 'e';
            case "kind" -> 'k';
            case "not" -> 'n';
            case "first" -> 'f';
            case "within" -> 'w';
            case "spread" -> 's';
            case ";" -> ';';
            default -> '?';
        };
    }

    static int firstWrong(String text) {
        List<Integer> begins = new ArrayList<>();
        StringBuilder letters = new StringBuilder();
        Matcher tokens = Pattern.compile(TOKEN.pattern(), Pattern.DOTALL).matcher(text);
        while (tokens.find()) {
            begins.add(tokens.start(1));
            letters.append(letter(tokens.group(1)));
        }
        int good = 0;
        while (good < letters.length() && canStand(letters.substring(0, good + 1))) good++;
        int plain = good < letters.length() ? begins.get(good)
                : TEXT.matcher(letters).matches() ? -1 : text.length();
        if (good < letters.length() && good > 0 && letters.charAt(good - 1) == ';' && stepsIn(letters.substring(0, good)) == 6
                && (letters.charAt(good) == 'k' || letters.charAt(good) == 'n')) {
            plain = begins.get(good - 1);
        }
        int told = wrongByWhatIsBehind(letters.substring(0, good), begins, text.length(), good == letters.length());
        return plain == -1 ? told : told == -1 ? plain : Math.min(plain, told);
    }

    private static boolean canStand(String letters) {
        Matcher m = TEXT.matcher(letters);
        return m.matches() || m.hitEnd();
    }

    private static int stepsIn(String letters) {
        int steps = 0;
        for (int i = 0; i < letters.length(); i++) if (letters.charAt(i) == 'k') steps++;
        return steps;
    }

    private static int wrongByWhatIsBehind(String letters, List<Integer> begins, int length, boolean whole) {
        String[] parts = letters.split(";", -1);
        int at = 0;
        boolean within = false, none = false;
        for (int p = 0; p < parts.length; p++) {
            String part = parts[p];
            if (p > 0) {
                if (part.startsWith("k")) {
                    if (within) return begins.get(at);
                    none = false;
                } else if (part.startsWith("nk")) {
                    if (part.contains("w")) within = true;
                    else none = true;
                } else if (part.startsWith("s") && none) {
                    return begins.get(at);
                }
            }
            at += part.length() + 1;
        }
        return whole && none ? length : -1;
    }

    private static Question parse(String text) {
        String[] parts = text.split(";");
        List<String> head = words(parts[0]);
        int fields = bit(head.get(1));
        List<Step> steps = new ArrayList<>();
        Spread spread = null;
        for (int p = 1; p < parts.length; p++) {
            List<String> w = words(parts[p]);
            if (w.get(0).equals("spread")) {
                spread = new Spread(w.get(1), Integer.parseInt(w.get(2)), Integer.parseInt(w.get(4)));
                fields |= bit(w.get(1));
                continue;
            }
            for (String f : List.of("who", "what", "where")) if (w.contains(f)) fields |= bit(f);
            steps.add(new Step(w.get(0).equals("not"), behind(w, "kind"), behind(w, "who"), behind(w, "what"),
                    behind(w, "where"), w.contains("first"), behind(w, "within")));
        }
        return new Question(head.get(1), steps, spread, fields);
    }

    private static List<String> words(String part) {
        List<String> words = new ArrayList<>();
        Matcher m = TOKEN.matcher(part);
        while (m.find()) words.add(m.group(1));
        return words;
    }

    private static Integer behind(List<String> words, String word) {
        int i = words.indexOf(word);
        return i < 0 ? null : Integer.valueOf(words.get(i + 1));
    }

    private static int bit(String field) {
        return field.equals("who") ? 1 : field.equals("what") ? 2 : 4;
    }

    // ---- ROWS

    List<Act> known(int tick) {
        List<Act> known = new ArrayList<>();
        for (Act a : acts) if (a.told <= tick) known.add(a);
        return known;
    }

    static boolean fits(Act a, Step s, List<Act> known) {
        if (a.kind != s.kind) return false;
        if (s.who != null && a.who != s.who) return false;
        if (s.what != null && a.what != s.what) return false;
        if (s.where != null && a.where != s.where) return false;
        if (s.first) {
            for (Act b : known) {
                if (b.kind == a.kind && b.who == a.who && b.what == a.what && b.tick < a.tick) return false;
            }
        }
        return true;
    }

    /** All ROWS, found by trying every ACT for every STEP and looking at the whole ROW at its end. */
    List<List<Act>> rows(int question, int tick) {
        Question q = questions.get(question);
        List<Act> known = known(tick);
        List<Step> plain = new ArrayList<>();
        for (Step s : q.steps) if (!s.not) plain.add(s);
        List<List<Act>> rows = new ArrayList<>();
        collect(q, plain, known, new ArrayList<>(), rows, tick);
        return rows;
    }

    private void collect(Question q, List<Step> plain, List<Act> known, List<Act> row, List<List<Act>> rows, int tick) {
        if (row.size() == plain.size()) {
            if (isRow(q, row, known, tick)) rows.add(new ArrayList<>(row));
            return;
        }
        for (Act a : known) {
            // only what keeps the trying short: the greater TICK, and one value of by
            if (!row.isEmpty() && a.tick <= row.get(row.size() - 1).tick) continue;
            if (!row.isEmpty() && a.in(q.by) != row.get(0).in(q.by)) continue;
            if (!fits(a, plain.get(row.size()), known)) continue;
            row.add(a);
            collect(q, plain, known, row, rows, tick);
            row.remove(row.size() - 1);
        }
    }

    private static boolean isRow(Question q, List<Act> row, List<Act> known, int tick) {
        int value = row.get(0).in(q.by);
        for (Act a : row) if (a.in(q.by) != value) return false;
        Act last = row.get(row.size() - 1);
        int at = 0;
        for (Step s : q.steps) {
            if (!s.not) {
                if (s.within != null && row.get(at).tick - row.get(at - 1).tick > s.within) return false;
                at++;
                continue;
            }
            for (Act b : known) {
                if (b.in(q.by) != value || !fits(b, s, known)) continue;
                if (at < row.size() && b.tick > row.get(at - 1).tick && b.tick < row.get(at).tick) return false;
                if (at == row.size() && b.tick > last.tick && b.tick <= last.tick + s.within) return false;
            }
            if (at == row.size() && tick < last.tick + s.within) return false;
        }
        if (q.spread == null) return true;
        Step end = null;
        for (Step s : q.steps) if (!s.not) end = s;
        Set<Integer> unlike = new HashSet<>();
        for (Act b : known) {
            if (fits(b, end, known) && b.in(q.by) == value && b.tick <= last.tick && b.tick > last.tick - q.spread.within) {
                unlike.add(b.in(q.spread.field));
            }
        }
        return unlike.size() >= q.spread.least;
    }

    private void needQuestion(int question) {
        if (question < 0 || question >= questions.size()) throw new IndexOutOfBoundsException();
    }

    List<Act> findList(int question, int tick) {
        needQuestion(question);
        Set<Act> ends = new HashSet<>();
        for (List<Act> row : rows(question, tick)) ends.add(row.get(row.size() - 1));
        List<Act> sorted = new ArrayList<>(ends);
        sorted.sort(LATER);
        return sorted;
    }

    private static final Comparator<Act> LATER =
            Comparator.<Act>comparingInt(a -> a.tick).thenComparingInt(a -> a.number);

    int finds(int question, int tick) {
        return findList(question, tick).size();
    }

    int found(int question, int tick, int n) {
        List<Act> finds = findList(question, tick);
        return n < 0 || n >= finds.size() ? -1 : finds.get(n).number;
    }

    int proof(int question, int tick, int n, int i) {
        List<Act> finds = findList(question, tick);
        if (n < 0 || n >= finds.size()) return -1;
        List<Act> best = null;
        for (List<Act> row : rows(question, tick)) {
            if (row.get(row.size() - 1) != finds.get(n)) continue;
            if (best == null || isLater(row, best)) best = row;
        }
        return i < 0 || i >= best.size() ? -1 : best.get(i).number;
    }

    private static boolean isLater(List<Act> row, List<Act> other) {
        for (int i = row.size() - 2; i >= 0; i--) {
            int c = LATER.compare(row.get(i), other.get(i));
            if (c != 0) return c > 0;
        }
        return false;
    }

    int exempt(int question, int who, int until) {
        needQuestion(question);
        if (who < 0 || who > 30 || until < 0 || until > 1000000) throw new IllegalArgumentException();
        if (exempts.size() == 40) return -1;
        exempts.add(new Exempt(question, who, until));
        return exempts.size();
    }

    private boolean isExempt(int question, Act a) {
        for (Exempt e : exempts) if (e.question == question && e.who == a.who && a.tick <= e.until) return true;
        return false;
    }

    int spared(int question, int tick) {
        int n = 0;
        for (Act a : findList(question, tick)) if (isExempt(question, a)) n++;
        return n;
    }

    void gap(int n) {
        if (n < 0 || n > 100000) throw new IllegalArgumentException();
        gap = n;
    }

    private List<List<Find>> caseList() {
        List<Find> left = new ArrayList<>();
        for (int q = 0; q < questions.size(); q++) {
            for (Act a : findList(q, now)) if (!isExempt(q, a)) left.add(new Find(q, a));
        }
        List<List<Find>> cases = new ArrayList<>();
        while (!left.isEmpty()) {
            List<Find> one = new ArrayList<>();
            one.add(left.remove(0));
            for (int i = 0; i < one.size(); i++) {
                Find f = one.get(i);
                for (int j = left.size() - 1; j >= 0; j--) {
                    if (areJoined(f.act, left.get(j).act)) one.add(left.remove(j));
                }
            }
            cases.add(one);
        }
        return cases;
    }

    private boolean areJoined(Act a, Act b) {
        return (a.who == b.who || a.where == b.where) && Math.abs(a.tick - b.tick) <= gap;
    }

    int cases() {
        return caseList().size();
    }

    int joined(int question, int act) {
        needQuestion(question);
        if (act < 0 || act >= acts.size()) throw new IndexOutOfBoundsException();
        for (List<Find> one : caseList()) {
            for (Find f : one) if (f.question == question && f.act.number == act) return one.size();
        }
        return 0;
    }

    int cost(int question, int tick) {
        needQuestion(question);
        List<Act> known = known(tick);
        int least = Integer.MAX_VALUE;
        for (Step s : questions.get(question).steps) {
            if (s.not) continue;
            int n = 0;
            for (Act a : known) if (fits(a, s, known)) n++;
            least = Math.min(least, n);
        }
        return least;
    }

    int widest(int question, int tick) {
        List<Act> finds = findList(question, tick);
        if (finds.isEmpty()) return -1;
        String[] names = {"who", "what", "where"};
        int best = 0, most = 0;
        for (int f = 0; f < 3; f++) {
            Set<Integer> unlike = new HashSet<>();
            for (Act a : finds) unlike.add(a.in(names[f]));
            if (unlike.size() > most) {
                most = unlike.size();
                best = f;
            }
        }
        return best;
    }

    int count(int what) {
        switch (what) {
            case 0: return now;
            case 1: return acts.size();
            case 2: return doubles;
            case 3: return questions.size();
            case 4: return exempts.size();
            case 5: return gap;
            case 6: return (int) acts.stream().filter(a -> a.told > a.tick).count();
            case 7:
                int n = 0;
                for (int q = 0; q < questions.size(); q++) n += finds(q, now);
                return n;
            default: return -1;
        }
    }
}
