import java.nio.charset.StandardCharsets;
import java.util.Objects;

/** What the tests share: how an answer is written down, how a text gets onto a TAPE, and how a test ends. */
final class Check {
    interface Call {
        Object make();
    }

    private static int wrong;
    private static int right;

    private Check() { }

    /** A call's answer, or throws.NAME of what it throws. */
    static Object answer(Call call) {
        try {
            return call.make();
        } catch (RuntimeException e) {
            return "throws." + e.getClass().getSimpleName();
        }
    }

    static void due(String what, Object want, Call call) {
        Object got = answer(call);
        if (Objects.equals(got, want)) {
            right++;
        } else {
            wrong++;
            if (wrong <= 50) System.out.println(what + ": answered " + got + ", due is " + want);
        }
    }

    static boolean isAllRight() {
        return wrong == 0;
    }

    static void close(String name) {
        System.out.println(name + ": " + right + " answers as due, " + wrong + " not");
        if (wrong != 0) System.exit(1);
    }

    /** Five numbers for each 20 bytes of a text, filled up with zeros. */
    static int[] numbers(String text) {
        byte[] bytes = text.getBytes(StandardCharsets.ISO_8859_1);
        int[] numbers = new int[(bytes.length + 19) / 20 * 5];
        for (int i = 0; i < bytes.length; i++) {
            numbers[i / 4] |= (bytes[i] & 255) << (24 - 8 * (i % 4));
        }
        return numbers;
    }

    static void lay(LogHunt x, String text) {
        int[] n = numbers(text);
        x.end(0);
        for (int i = 0; i < n.length; i += 5) x.feed(n[i], n[i + 1], n[i + 2], n[i + 3], n[i + 4]);
        x.end(text.length());
    }

    static int ask(LogHunt x, String text) {
        lay(x, text);
        return x.ask(0);
    }

    static void lay(Naive x, String text) {
        int[] n = numbers(text);
        x.end(0);
        for (int i = 0; i < n.length; i += 5) x.feed(n[i], n[i + 1], n[i + 2], n[i + 3], n[i + 4]);
        x.end(text.length());
    }
}
