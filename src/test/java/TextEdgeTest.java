/** The document's second part, the texts of QUESTIONS, at its edges: each sentence by a method of its own. */
public final class TextEdgeTest extends Edges {
    private static final String ONE = "by who;kind 1";
    private static final String SIX = ONE + ";kind 1".repeat(5);
    private static final String SIX_NOT = ONE + ";not kind 1".repeat(5);
    private static final String SIX_NOT_WITHIN = ONE + ";not kind 1 within 5".repeat(5);

    public static void main(String[] args) {
        hold(TextEdgeTest.class, args);
    }

    @Says("QUESTIONS (at most 8, numbered from 0 on)")
    private static void atMostEight() {
        LogHunt x = new LogHunt();
        for (int i = 0; i < 8; i++) {
            int n = i;
            due(n, () -> Check.ask(x, ONE));
        }
        due(FULL, () -> Check.ask(x, ONE));
        due(8, () -> x.count(3));
        due(0, () -> x.finds(7, 0));
        due(BOUNDS, () -> x.finds(8, 0));
    }

    @Says("by FIELD { ; STEP } [ ; spread FIELD NUMBER within NUMBER ]")
    private static void form() {
        texts(ONE, ONE + ";kind 2", ONE + ";spread what 2 within 5", ONE + ";kind 2;spread what 2 within 5",
            "^kind 1", "^;kind 1", "by who ^kind 1", "by who;^spread what 2 within 5;kind 1",
            ONE + ";spread what 2 within 5^;kind 2", ONE + ";spread what 2 within 5^;spread what 2 within 5",
            ONE + " ^spread what 2 within 5", ONE + " ^kind 2", "by who ^what;kind 1", "by who;^;kind 1", "by ^;kind 1");
    }

    @Says("with one STEP at least, 6 at most")
    private static void oneToSixSteps() {
        String text = "by who";
        text(text, text.length());
        for (int steps = 1; steps <= 6; steps++) {
            text += ";kind " + steps;
            text(text, NONE);
            text(text + ";spread what 2 within 5", NONE);
        }
        text(text + ";kind 7", text.length());
        texts("by who;kind 1;not kind 2;kind 3;not kind 4;kind 5;not kind 6 within 7",
            "by who;kind 1;not kind 2;kind 3;not kind 4;kind 5;not kind 6 within 7^;not kind 6 within 8");
    }

    @Says("FIELD: who, what or where.")
    private static void fields() {
        texts("by who;kind 1", "by what;kind 1", "by where;kind 1", "by ^kind;kind 1", "by ^when;kind 1",
            "by ^first;kind 1", "by ^whe;kind 1", "by ^wh;kind 1", ONE + ";spread who 2 within 5",
            ONE + ";spread what 2 within 5", ONE + ";spread where 2 within 5", ONE + ";spread ^kind 2 within 5",
            ONE + ";spread ^2 within 5", ONE + ";spread ^within 5", ONE + ";spread ^wheres 2 within 5");
    }

    @Says("STEP: [ not ] kind NUMBER { COND } [ first ] [ within NUMBER ].")
    private static void steps() {
        texts(ONE + ";kind 2", ONE + ";not kind 2;kind 3", ONE + ";kind 2 who 3", ONE + ";kind 2 first",
            ONE + ";kind 2 within 4", ONE + ";kind 2 who 3 first within 4", ONE + ";not kind 2 who 3 within 4",
            ONE + ";kind ^not 2", ONE + ";^2", ONE + ";^who 3", ONE + ";^first kind 2", ONE + ";^within 4 kind 2",
            ONE + ";kind 2 first ^who 3", ONE + ";kind 2 within 4 ^first", ONE + ";kind 2 within 4 ^who 3",
            ONE + ";kind 2 ^3", ONE + ";kind 2 ^not", ONE + ";kind ^who 3");
    }

    @Says("COND: who NUMBER, what NUMBER, or where NUMBER, each at most once.")
    private static void condsOnce() {
        String[] conds = {"who 1", "what 2", "where 3"};
        for (int a = 0; a < 3; a++) {
            for (int b = 0; b < 3; b++) {
                if (b == a) continue;
                String two = ONE.replace("by who", "by what") + " " + conds[a] + " " + conds[b] + " ";
                String three = two + conds[3 - a - b] + " ";
                text(two, NONE);
                text(three, NONE);
                texts(two + "^" + conds[a], two + "^" + conds[b], three + "^" + conds[a], three + "^" + conds[b]);
            }
            texts(ONE + " " + conds[a] + " ^" + conds[a], ONE + ";not kind 2 " + conds[a] + " ^" + conds[a]);
            // each STEP has its own
            texts(ONE + " " + conds[a] + ";kind 2 " + conds[a]);
        }
    }

    @Says("A NUMBER: 1 to 6 digits")
    private static void sixDigits() {
        texts("by who;kind 1", "by who;kind 01", "by who;kind 000001", "by who;kind ^0000001", "by who;kind ^00000000000",
            ONE + " who 000030", ONE + " who ^0000030", ONE + " what 000030", ONE + " what ^0000030",
            ONE + " where 000015", ONE + " where ^0000015", ONE + ";kind 1 within 000009",
            ONE + ";kind 1 within ^0000009", ONE + ";kind 1 within 100000", ONE + ";kind 1 within ^0100000",
            ONE + ";spread what 000002 within 000001", ONE + ";spread what ^0000002 within 1",
            ONE + ";spread what 2 within ^0000001", "by who;kind ^;", ONE + " who ^first");
    }

    @Says("of kind 0 to 7")
    private static void kindNumbers() {
        texts("by who;kind 0", "by who;kind 7", "by who;kind ^8", "by who;kind ^9", "by who;kind ^10",
            "by who;kind ^999999", "by who;kind ^256", ONE + ";kind 0", ONE + ";kind 7", ONE + ";kind ^8",
            ONE + ";not kind 0 within 1", ONE + ";not kind 7 within 1", ONE + ";not kind ^8 within 1",
            "by who;kind ^4294967296", "by who;kind ^-1");
    }

    @Says("who and what 0 to 30")
    private static void whoAndWhatNumbers() {
        for (String field : new String[] {"who", "what"}) {
            for (String step : new String[] {ONE, ONE + ";kind 2", ONE + ";not kind 3"}) {
                String behind = step.endsWith("3") ? " within 4" : "";
                texts(step + " " + field + " 0" + behind, step + " " + field + " 30" + behind,
                    step + " " + field + " ^31" + behind, step + " " + field + " ^32" + behind,
                    step + " " + field + " ^999999" + behind, step + " " + field + " ^-1" + behind);
            }
        }
    }

    @Says("where 0 to 15")
    private static void whereNumbers() {
        texts(ONE + " where 0", ONE + " where 15", ONE + " where ^16", ONE + " where ^30", ONE + " where ^999999",
            ONE + " where ^-1", ONE + ";kind 2 where 15", ONE + ";kind 2 where ^16",
            ONE + ";not kind 2 where 15 within 1", ONE + ";not kind 2 where ^16 within 1");
    }

    @Says("of spread 2 to 30")
    private static void spreadNumbers() {
        for (String field : new String[] {"who", "what", "where"}) {
            String spread = ONE + ";spread " + field;
            texts(spread + " 2 within 5", spread + " 30 within 5", spread + " ^0 within 5", spread + " ^1 within 5",
                spread + " ^31 within 5", spread + " ^999999 within 5", spread + " ^000001 within 5");
        }
    }

    @Says("of within 1 to 100000")
    private static void withinNumbers() {
        for (String ahead : new String[] {ONE + ";kind 2", ONE + ";not kind 2", ONE + ";spread what 2"}) {
            texts(ahead + " within 1", ahead + " within 100000", ahead + " within ^0", ahead + " within ^000000",
                ahead + " within ^100001", ahead + " within ^999999", ahead + " within ^1000000", ahead + " within ^-1");
        }
    }

    @Says("The first STEP is without not and within")
    private static void firstStep() {
        texts("by who;^not kind 1", "by who;^not kind 1 within 5", "by who;kind 1 ^within 5", "by who;kind 1 first",
            "by who;kind 1 first ^within 5", "by who;kind 1 who 2 ^within 5", "by who;^not kind 1;kind 2",
            "by who;kind 1;not kind 1 within 5", "by who;kind 1;kind 1 within 5");
    }

    @Says("first stands in none with not")
    private static void noFirstWithNot() {
        texts(ONE + ";not kind 2 ^first", ONE + ";not kind 2 ^first;kind 3", ONE + ";not kind 2 ^first within 5",
            ONE + ";not kind 2 who 1 ^first", ONE + ";not kind 2 within 5 ^first", ONE + ";not ^first",
            ONE + " first;kind 2 first;not kind 3;kind 4 first");
    }

    @Says("a STEP with not has within just if no STEP without not stands behind it (so it must have it there)")
    private static void withinOfNot() {
        texts(ONE + ";not kind 2 within 5", ONE + ";not kind 2^", ONE + ";not kind 2;kind 3",
            ONE + ";not kind 2 within 5;^kind 3", ONE + ";not kind 2;kind 3;not kind 4 within 5",
            ONE + ";not kind 2;kind 3;not kind 4^", ONE + ";not kind 2;not kind 3;kind 4",
            ONE + ";not kind 2;not kind 3 within 5^", ONE + ";not kind 2 within 5;not kind 3^",
            ONE + ";not kind 2 within 5;not kind 3 within 6", SIX_NOT_WITHIN, SIX_NOT + "^",
            ONE + ";not kind 1;not kind 1;not kind 1;not kind 1;kind 1",
            SIX_NOT_WITHIN + ";spread what 2 within 5", SIX_NOT + ";^spread what 2 within 5");
    }

    @Says("Words are as long as letters a to z go on")
    private static void words() {
        texts("^bywho;kind 1", "^b y who;kind 1", "by ^whokind;kind 1", "by who;^kinda 1", "by who;^kindz 1",
            "by who;^kin 1", "by who;^k ind 1", "by who;kind1", "by who;kind1who2what3where4first",
            ONE + ";kind2within3", ONE + ";spread what2within3", "by ^whos;kind 1", ONE + " ^firstwithin",
            ONE + ";^notkind 2 within 3", "by who^`;kind 1", "by who^{;kind 1", "by who^A;kind 1", "^By who;kind 1",
            "by who^_;kind 1", "by who;kind^@1", "by ^WHO;kind 1");
    }

    @Says("NUMBERS as digits do")
    private static void numbers() {
        texts("by who;kind 1 ^2", "by who;kind 0 ^0", "by who;kind ^12", ONE + " who 1 ^2", ONE + " who 12",
            ONE + "^/", ONE + "^:", ONE + "^.0", ONE + "^,5", "by who;kind ^+1", ONE + ";kind 2 within 1 ^0",
            ONE + ";kind 2 within 10", ONE + ";spread what 2 ^2 within 5", ONE + ";spread what 22within 5");
    }

    @Says("between all there may be blanks (32), also ahead and behind")
    private static void blanks() {
        String[] parts = {"", "by", " ", "who", "", ";", "", "kind", "", "1", "", "who", "", "2", "", "first", "", ";", "",
            "not", " ", "kind", "", "3", "", ";", "", "kind", "", "4", "", "within", "", "5", "", ";", "", "spread", " ",
            "what", "", "2", "", "within", "", "6", ""};
        text(String.join("", parts), NONE);
        for (int gap = 0; gap < parts.length; gap += 2) {
            String[] wider = parts.clone();
            for (int more = 1; more <= 3; more++) {
                wider[gap] += " ";
                text(String.join("", wider), NONE);
            }
            for (char none : new char[] {0, 9, 10, 13, 31, 33, 160, 255}) {
                String[] spoilt = parts.clone();
                spoilt[gap] = none + parts[gap];
                int at = String.join("", java.util.Arrays.copyOf(parts, gap)).length();
                text(String.join("", spoilt), at);
            }
        }
        text(" ".repeat(400 - ONE.length()) + ONE, NONE);
        text(ONE + " ".repeat(400 - ONE.length()), NONE);
    }

    @Says("The first wrong byte: the begin of the first word, NUMBER or sign that cannot stand there,"
        + " by what stands ahead of it")
    private static void firstOfSeveral() {
        texts("^x y z", "by ^x;kind 9", "by who;kind ^9;kind 9", ONE + " who ^99 what 99", ONE + " ^x;not kind 2",
            ONE + ";not kind ^9", ONE + ";not kind 2 ^x", ONE + ";not kind 2 within ^0;kind 3",
            ONE + ";not kind 2 within 5 ^x;kind 3", ONE + ";spread what ^1 within 0", "  ^bye", "by   ^whoever",
            "by who;  ^kinds 99", "by who;kind   ^99", ONE + "  ;^;");
    }

    @Says("a word that is none")
    private static void wordThatIsNone() {
        texts("^x", "by ^x", "by who ^x", "by who;^x", "by who;kind ^x", ONE + " ^x", ONE + " who ^x", ONE + " who 1 ^x",
            ONE + " first ^x", ONE + ";^x", ONE + ";not ^x", ONE + ";not kind ^x", ONE + ";not kind 2 ^x",
            ONE + ";not kind 2 within ^x", ONE + ";kind 2 within 3 ^x", ONE + ";spread ^x", ONE + ";spread what ^x",
            ONE + ";spread what 2 ^x", ONE + ";spread what 2 within ^x", ONE + ";spread what 2 within 3 ^x");
        String all = "by who;kind 1 who 1 what 2 where 3 first;not kind 2;kind 3 within 4;spread where 2 within 5";
        text(all, NONE);
        int begin = 0;
        for (int at = 0; at < all.length(); at++) {
            if (!Character.isLetter(all.charAt(at))) {
                begin = at + 1;
                continue;
            }
            text(all.substring(0, at) + "x" + all.substring(at + 1), begin);
            text(all.substring(0, at) + "x" + all.substring(at), begin);
            text(all.substring(0, at) + all.substring(at + 1), begin);
        }
    }

    @Says("or comes a second time")
    private static void wordASecondTime() {
        texts("by ^by who;kind 1", "by who ^who;kind 1", "by who;kind ^kind 1", ONE + " who 1 ^who 1", ONE + " who ^who 1",
            ONE + " what 1 ^what 1", ONE + " where 1 ^where 1", ONE + " first ^first", ONE + ";not ^not kind 2",
            ONE + ";kind 2 within 3 ^within 3", ONE + ";kind 2 within ^within 3", ONE + ";spread ^spread what 2 within 3",
            ONE + ";spread what ^what 2 within 3", ONE + ";spread what 2 within 3 ^within 3",
            ONE + ";not kind 2 within 3 ^within 3");
    }

    @Says("or in a wrong order")
    private static void wordInAWrongOrder() {
        texts("^who by;kind 1", "^kind 1;by who", "by who;^who 1 kind 1", "by who;^first kind 1", ONE + " first ^who 1",
            ONE + " first ^what 1", ONE + " first ^where 1", ONE + ";kind 2 within 3 ^first", ONE + ";kind ^not 2",
            ONE + ";kind 2 ^not", ONE + ";kind 2 within 3 ^where 1", ONE + ";spread ^within 3 what 2",
            ONE + ";spread ^2 what within 3", ONE + ";not kind 2 within 3 ^who 1", "by who;^spread what 2 within 3;kind 1");
    }

    @Says("a NUMBER of more digits")
    private static void numberOfMoreDigits() {
        texts("by who;kind ^0000000", "by who;kind ^4294967297", "by who;kind ^18446744073709551617",
            ONE + " who ^4294967297", ONE + " what ^0000000", ONE + " where ^4294967296", ONE + ";kind 2 within ^4294967299",
            ONE + ";kind 2 within ^0000001", ONE + ";spread what ^4294967298 within 5", ONE + ";spread what ^0000002 within 5",
            ONE + ";spread what 2 within ^4294967298", ONE + ";spread what 2 within ^1000000");
        text("by who;kind " + "0".repeat(388), 12);
    }

    @Says("or out of its bounds")
    private static void numberOutOfBounds() {
        texts("by who;kind ^8", ONE + " who ^31", ONE + " what ^31", ONE + " where ^16", ONE + ";kind 2 within ^0",
            ONE + ";kind 2 within ^100001", ONE + ";not kind ^8", ONE + ";not kind 2 within ^0",
            ONE + ";not kind 2 within ^100001", ONE + ";spread what ^1 within 5", ONE + ";spread what ^31 within 5",
            ONE + ";spread what 2 within ^0", ONE + ";spread what 2 within ^100001");
    }

    @Says("not or within in the first STEP")
    private static void notOrWithinInTheFirst() {
        texts("by who;^not", "by who; ^not kind 1", "by who;kind 1 ^within", "by who;kind 1 ^within 5",
            "by who;kind 1 first  ^within 5", "by who;kind 1 where 1 ^within 5;kind 2");
    }

    /** Read so: behind not comes kind and nothing else, and first nowhere. */
    @Says("first, or not at all one, in a STEP with not")
    private static void firstInAStepWithNot() {
        texts(ONE + ";not kind 2 ^first", ONE + ";not kind 2 what 3 ^first;kind 4", ONE + ";not kind 2 within 3 ^first",
            ONE + ";not ^first kind 2", ONE + ";not ^not kind 2", ONE + ";not ^spread what 2 within 3", ONE + ";not ^;kind 2",
            ONE + ";not ^2", ONE + ";not ^who 2", ONE + ";not ^within 2");
    }

    @Says("a ; ahead of a 7th STEP")
    private static void aheadOfASeventhStep() {
        texts(SIX, SIX + "^;kind 1", SIX + "^;kind", SIX + "^;kind 9", SIX + "^;not kind 1 within 5", SIX + "^;not",
            SIX + "^;not x", SIX + " ^; kind 1", SIX + ";spread what 2 within 5", SIX + ";^x", SIX + ";^", SIX + ";^;",
            SIX + ";^5", SIX_NOT + "^;kind 1", SIX_NOT + "^;not kind 1 within 5", SIX_NOT_WITHIN + "^;kind 1",
            SIX_NOT_WITHIN + "^;not kind 1 within 5", SIX + ";spread what 2 within 5^;kind 1",
            ONE + ";kind 1".repeat(4) + ";not kind 1 within 5");
    }

    @Says("any other byte")
    private static void anyOtherByte() {
        for (int b = 0; b < 256; b++) {
            boolean stands = b == ' ' || b == ';' || (b >= 'a' && b <= 'z') || (b >= '0' && b <= '9');
            if (!stands) {
                char other = (char) b;
                text(other + ONE, 0);
                text("by " + other + "who;kind 1", 3);
                text("by who" + other + ";kind 1", 6);
                text("by who;kind " + other, 12);
                text(ONE + other, 13);
                text(ONE + " who 3" + other + "0", 19);
                text(ONE + ";" + other, 14);
                text(ONE + ";spread what 2 within 5" + other, 36);
            }
        }
    }

    @Says("or the text's length, if more must come")
    private static void moreMustCome() {
        String[] heads = {"", "by", "by who", "by who;", "by who;kind", ONE + " who", ONE + " what", ONE + " where",
            ONE + ";", ONE + ";not", ONE + ";not kind", ONE + ";not kind 2", ONE + ";not kind 2;", ONE + ";not kind 2 who",
            ONE + ";not kind 2 within", ONE + ";not kind 2 within 3;", ONE + ";kind 2 within", ONE + ";spread",
            ONE + ";spread what", ONE + ";spread what 2", ONE + ";spread what 2 within", SIX + ";", SIX_NOT};
        for (String head : heads) {
            text(head, head.length());
            text(head + " ", head.length() + 1);
            text(head + " ".repeat(400 - head.length()), 400);
        }
    }

    @Says("a STEP with not and within: the begin of kind of the first STEP without not behind it")
    private static void notWithWithin() {
        texts(ONE + ";not kind 2 within 3;^kind 4", ONE + ";not kind 2 within 3; ^kind 4 within 5;kind 5",
            ONE + ";not kind 2 within 3;not kind 2;^kind 4", ONE + ";not kind 2 within 3;not kind 2 within 4;^kind 4",
            ONE + ";not kind 2;not kind 2 within 4;^kind 4", ONE + ";not kind 2 within 3;^kind",
            ONE + ";not kind 2 within 3;^kind 9", ONE + ";not kind 2;kind 3;not kind 4 within 5;^kind 6",
            ONE + ";not kind 2 within 3;not kind ^9;kind 4", ONE + ";not kind 2 within 3;not ^x;kind 4",
            ONE + ";not kind 2 within 3;^kind 4;spread what 1 within 0");
    }

    @Says("one with not and no within, with none without not behind it: the text's length,"
        + " or, where spread stands, its begin")
    private static void notWithoutWithin() {
        texts(ONE + ";not kind 2^", ONE + ";not kind 2  ^", ONE + ";not kind 2;^spread what 2 within 3",
            ONE + ";not kind 2;  ^spread", ONE + ";not kind 2;^spread x", ONE + ";not kind 2;not kind 3^",
            ONE + ";not kind 2;not kind 3 within 4^", ONE + ";not kind 2 within 4;not kind 3^",
            ONE + ";not kind 2;not kind 3 within 4;^spread what 2 within 3",
            ONE + ";not kind 2 within 4;not kind 3;^spread what 2 within 3", ONE + ";not kind 2;kind 3;not kind 4^",
            ONE + ";not kind 2;kind 3;not kind 4;^spread what 2 within 3", ONE + ";not kind 2;kind 3;spread what 2 within 3",
            ONE + ";not kind 2;^spreads");
    }
}
