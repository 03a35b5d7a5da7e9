import java.util.Random;

/** Texts of QUESTIONS: which are right, and which is the first wrong byte of the others. */
public final class TextTest {
    private static final String SIX = "by who;kind 1;kind 1;kind 1;kind 1;kind 1;kind 1";
    private static final String ALL_NOT = "by who;kind 1;not kind 1;not kind 1;not kind 1;not kind 1;not kind 1";

    /** A ^ stands ahead of the first wrong byte; a text without one is right. */
    private static final String[] TEXTS = {
        "^", "   ^", "^b", "^bye who", "^BY who", "^1", "^;", "^\tby who;kind 1", "by ^\u0000",
        "by^", "by ^", "by  ^kind", "by ^whos", "by ^whowhat", "^bywho", "by ^1", "by ^;kind 1", "by ^by",
        "by who^", "by who  ^", "by who ^who", "by who ^kind 1", "by who ^1", "by who^,", "by who^\u00e9",
        "by ^whoz;kind 1", "by who^{", "by who^`", "by who;kind 1^/", "by who;kind 1^:", "by who^Z", "by who^\u00f7",
        "by who;^", "by who; ^", "by who;^;", "by who;^1", "by who;^first", "by who;^within 5", "by who;^not kind 1",
        "by who;^spread what 2 within 5", "by who;^who 1", "by who;^by who", "by who;^kinds 1",
        "by who;kind^", "by who;kind ^8", "by who;kind ^who", "by who;kind ^;", "by who;kind ^-1", "by who;kind ^31",
        "by who;kind ^0000000", "by who;kind ^99999999999999999999", "by who;kind ^4294967297", "by who;kind ^kind",
        "by who;kind 7", "by who;kind 0", "by who;kind 000007", "by what;kind7", "by where ; kind 7 ",
        "by who;kind7first", "by who;kind7who3what4where5first", "by who;kind 1;kind 2who 3within4",
        "by who;kind 1 ^1", "by who;kind 1  ^2", "by who;kind 1 ^kind",
        "by who;kind 1 ^not", "by who;kind 1 ^spread", "by who;kind 1 ^by", "by who;kind 1^.", "by who;kind 1 ^x",
        "by who;kind 1 who^", "by who;kind 1 who ^31", "by who;kind 1 who 30", "by who;kind 1 who 0",
        "by who;kind 1 what ^31", "by who;kind 1 what 30", "by who;kind 1 where ^16", "by who;kind 1 where 15",
        "by who;kind 1 who ^first", "by who;kind 1 who ^what 2", "by who;kind 1 where ^0000015",
        "by who;kind 1 who 1 ^who 2", "by who;kind 1 what 1 who 1 ^what 2", "by who;kind 1 where 1 ^where 1",
        "by who;kind 1 who 1 what 1 where 1 ^who 1", "by who;kind 1 where 1 what 1 who 1 first",
        "by who;kind 1 first ^first", "by who;kind 1 first ^who 1", "by who;kind 1 first ^within 3",
        "by who;kind 1 ^within 3", "by who;kind 1 who 2 ^within", "by who;kind 1 first ^3",
        "by who;kind 1;^", "by who;kind 1; ^", "by who;kind 1;^;", "by who;kind 1;^x", "by who;kind 1;^5",
        "by who;kind 1;^first", "by who;kind 1;^within 1", "by who;kind 1;^who 1",
        "by who;kind 1;kind 1 within^", "by who;kind 1;kind 1 within ^0", "by who;kind 1;kind 1 within 1",
        "by who;kind 1;kind 1 within 100000", "by who;kind 1;kind 1 within ^100001",
        "by who;kind 1;kind 1 within ^999999", "by who;kind 1;kind 1 within ^1000000",
        "by who;kind 1;kind 1 within ^0000001", "by who;kind 1;kind 1 within ^first",
        "by who;kind 1;kind 1 within 000001", "by who;kind 1;kind 1 within 5 ^within 5",
        "by who;kind 1;kind 1 within 5 ^first", "by who;kind 1;kind 1 within 5 ^who 1",
        "by who;kind 1;kind 1 who 1 first within 5", "by who;kind 1;kind 1 first ^where 1 within 5",
        "by who;kind 1;not^", "by who;kind 1;not ^not kind 2", "by who;kind 1;not ^1", "by who;kind 1;not ^first",
        "by who;kind 1;not ^;", "by who;kind 1;not ^x", "by who;kind 1;not ^within 5", "by who;kind 1;^nots kind 1",
        "by who;kind 1;not kind^", "by who;kind 1;not kind ^8",
        "by who;kind 1;not kind 2^", "by who;kind 1;not kind 2   ^", "by who;kind 1;not kind 2 ^first",
        "by who;kind 1;not kind 2 who 1 ^first within 3", "by who;kind 1;not kind 2 within 3 ^first",
        "by who;kind 1;not kind 2;^", "by who;kind 1;not kind 2;^x", "by who;kind 1;not kind 2;kind^",
        "by who;kind 1;not kind 2;kind ^9", "by who;kind 1;not kind 2;kind 3", "by who;kind 1;not kind 2 within 3",
        "by who;kind 1;not kind 2 who 1 what 2 where 3 within 100000",
        "by who;kind 1;not kind 2 within^", "by who;kind 1;not kind 2 within ^0",
        "by who;kind 1;not kind 2 within 3;^kind 3", "by who;kind 1;not kind 2 within 3;  ^kind",
        "by who;kind 1;not kind 2 within 3;^kind 9", "by who;kind 1;not kind 2 within 3;^x",
        "by who;kind 1;not kind 2 within 3;^kindx", "by who;kind 1;not kind 2 within 3;not kind 3^",
        "by who;kind 1;not kind 2 within 3;not kind 3;^kind 4", "by who;kind 1;not kind 2;not kind 3 within 4^",
        "by who;kind 1;not kind 2;not kind 3 within 4;^kind 1", "by who;kind 1;not kind 2 within 3;not kind 3 within 4",
        "by who;kind 1;not kind 2;not kind 3;kind 4", "by who;kind 1;not kind 2;kind 3;not kind 4^",
        "by who;kind 1;not kind 2;kind 3;not kind 4 within 5", "by who;kind 1;not kind 2 within 3;not kind 3;^",
        "by who;kind 1;not kind 2 within 3;not kind 3;^spread what 2 within 5",
        "by who;kind 1;not kind 2;^spread what 2 within 5", "by who;kind 1;not kind 2;^spread", "by who;kind 1;not kind 2; ^spread x",
        "by who;kind 1;not kind 2 within 3;spread what 2 within 5", "by who;kind 1;spread where 30 within 100000",
        "by who;kind 1;spread^", "by who;kind 1;spread ^2", "by who;kind 1;spread ^kind", "by who;kind 1;spread what^",
        "by who;kind 1;spread what ^1 within 2", "by who;kind 1;spread what ^31 within 2",
        "by who;kind 1;spread what ^0000002 within 2", "by who;kind 1;spread what ^within",
        "by who;kind 1;spread what 2^", "by who;kind 1;spread what 2 ^first", "by who;kind 1;spread what 2^;",
        "by who;kind 1;spread what 2 ^what 3", "by who;kind 1;spread what 2 within^",
        "by who;kind 1;spread what 2 within ^0", "by who;kind 1;spread what 2 within ^100001",
        "by who;kind 1;spread what 2 within 1", "by who;kind 1;spread what 2 within 1 ", "by who;kind1;spread what2within1",
        "by who;kind 1;spread what 2 within 1^;", "by who;kind 1;spread what 2 within 1 ^; kind 2",
        "by who;kind 1;spread what 2 within 1 ^within 1", "by who;kind 1;spread what 2 within 1 ^5",
        "by who;kind 1;spread who 2 within 1", "by who;kind 1;^spreads who 2 within 1",
        SIX, SIX + "^;kind 1", SIX + "^;not kind 1 within 3", SIX + "^;not", SIX + "^;kind", SIX + "   ^; kind x",
        SIX + ";^", SIX + "; ^", SIX + ";^;", SIX + ";^x", SIX + ";^who", SIX + ";^first", SIX + ";^kinds", SIX + ";^nots",
        SIX + ";spread what 2 within 5", SIX + ";spread what 2 within 5^;kind 1", SIX + ";^7", SIX + ";^within 5",
        ALL_NOT + "^", ALL_NOT + "^;kind 1", ALL_NOT + ";^", ALL_NOT + ";^spread what 2 within 5",
        ALL_NOT + " within 5^", ALL_NOT + ";^x", ALL_NOT + "^;not kind 1 within 5",
        "by who;kind 1;not kind 1 within 1;not kind 1 within 1;not kind 1 within 1;not kind 1 within 1;not kind 1 within 1",
        "by who;kind 1;not kind 1 within 1;not kind 1 within 1;not kind 1 within 1;not kind 1 within 1;^kind 1",
    };

    public static void main(String[] args) {
        for (String marked : TEXTS) {
            int want = marked.indexOf('^');
            judge(marked.replace("^", ""), want);
        }
        long400();
        Random dice = new Random(20261116);
        for (int i = 0; i < 60000 && Check.isAllRight(); i++) {
            String text = new Texts(dice, 8, 31, 31, 16, 50).text();
            if (dice.nextInt(10) > 0) text = Texts.spoil(text, dice);
            if (text.length() <= 400) judge(text, Naive.firstWrong(text));
        }
        Check.close("TextTest");
    }

    private static void judge(String text, int want) {
        LogHunt x = new LogHunt();
        Check.lay(x, text);
        Check.due("ask of '" + text + "'", want == -1 ? 0 : "throws.IllegalArgumentException", () -> x.ask(0));
        Check.due("fault of '" + text + "'", want, x::fault);
    }

    /** A TAPE that is full to its last byte. */
    private static void long400() {
        String right = "by who;kind 1";
        judge(" ".repeat(400 - right.length()) + right, -1);
        judge(right + " ".repeat(400 - right.length()), -1);
        judge(" ".repeat(400), 400);
        judge(right + " ".repeat(399 - right.length()) + ";", 400);
        judge("1".repeat(400), 0);
        judge("by who;kind " + "0".repeat(388), 12);
        judge("b".repeat(400), 0);
        judge(";".repeat(400), 0);
    }
}
