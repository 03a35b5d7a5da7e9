import java.io.IOException;
import java.lang.reflect.InvocationTargetException;
import java.lang.reflect.Method;
import java.lang.reflect.Modifier;
import java.nio.file.DirectoryStream;
import java.nio.file.Files;
import java.nio.file.Path;
import java.util.ArrayList;
import java.util.List;
import java.util.regex.Matcher;
import java.util.regex.Pattern;

/** README.md is no stranger to the class: its examples are run, and it names all calls and all tests. */
public final class ReadmeTest {
    private static final Pattern CALL =
            Pattern.compile("x\\.(\\w+)\\(([-0-9, ]*)\\);(?: +// (throws \\w+|true|false|-?\\d+)(?:: .*)?)?");
    private static final Pattern LAY = Pattern.compile("lay\\(x, \"(.*)\"\\);");
    private static final Pattern QUESTION = Pattern.compile("\\| `(by [^`]*)` \\|.*");

    private static LogHunt x;

    public static void main(String[] args) throws IOException {
        List<String> readme = Files.readAllLines(Path.of("README.md"));
        runExamples(readme);
        askQuestions(readme);
        findNames(String.join("\n", readme));
        Check.close("ReadmeTest");
    }

    /** As it stands in README.md: runExamples compares the lines. */
    static void lay(LogHunt x, String text) {
        int[] n = new int[100];
        for (int i = 0; i < text.length(); i++) {
            n[i / 4] |= text.charAt(i) << 24 - i % 4 * 8;
        }
        x.end(0);
        for (int i = 0; i * 4 < text.length(); i += 5) {
            x.feed(n[i], n[i + 1], n[i + 2], n[i + 3], n[i + 4]);
        }
        x.end(text.length());
    }

    private static void runExamples(List<String> readme) throws IOException {
        String own = Files.readString(Path.of("src/test/java/ReadmeTest.java"));
        for (List<String> block : blocks(readme)) {
            if (block.get(0).startsWith("static ")) {
                String method = "    " + String.join("\n    ", block) + "\n";
                Check.due("README's " + block.get(0), true, () -> own.contains(method));
            } else {
                for (String line : block) runLine(line);
            }
        }
        Check.due("README has examples", true, () -> x != null);
    }

    private static List<List<String>> blocks(List<String> readme) {
        List<List<String>> blocks = new ArrayList<>();
        boolean inside = false;
        for (String line : readme) {
            if (line.equals("```java")) {
                inside = true;
                blocks.add(new ArrayList<>());
            } else if (line.startsWith("```")) {
                inside = false;
            } else if (inside) {
                blocks.get(blocks.size() - 1).add(line);
            }
        }
        return blocks;
    }

    private static void runLine(String line) {
        if (line.equals("LogHunt x = new LogHunt();")) {
            x = new LogHunt();
            return;
        }
        Matcher text = LAY.matcher(line);
        if (text.matches()) {
            lay(x, text.group(1));
            return;
        }
        Matcher call = CALL.matcher(line);
        boolean isCall = call.matches();
        Check.due("README, '" + line + "' can be run", true, () -> isCall);
        if (isCall) {
            String want = call.group(3) == null ? "null" : call.group(3).replace("throws ", "throws.");
            Check.due("README, '" + line + "'", want, () -> "" + Check.answer(() -> make(call.group(1), call.group(2))));
        }
    }

    private static Object make(String name, String numbers) {
        String[] parts = numbers.isBlank() ? new String[0] : numbers.split(", *");
        Class<?>[] types = new Class<?>[parts.length];
        Object[] values = new Object[parts.length];
        for (int i = 0; i < parts.length; i++) {
            types[i] = int.class;
            values[i] = Integer.valueOf(parts[i]);
        }
        try {
            return LogHunt.class.getMethod(name, types).invoke(x, values);
        } catch (InvocationTargetException e) {
            throw (RuntimeException) e.getCause();
        } catch (ReflectiveOperationException e) {
            throw new AssertionError(e);
        }
    }

    private static void askQuestions(List<String> readme) {
        LogHunt asked = new LogHunt();
        int number = 0;
        for (String line : readme) {
            Matcher row = QUESTION.matcher(line);
            if (row.matches()) {
                lay(asked, row.group(1));
                Check.due("README, '" + row.group(1) + "'", number, () -> asked.ask(0));
                number++;
            }
        }
        int rows = number;
        Check.due("README has questions", true, () -> rows > 0);
    }

    private static void findNames(String readme) throws IOException {
        for (Method m : LogHunt.class.getDeclaredMethods()) {
            if (!Modifier.isPublic(m.getModifiers())) continue;
            String numbers = m.getParameterCount() == 0 ? "" : "\\w+(, \\w+){" + (m.getParameterCount() - 1) + "}";
            Pattern row = Pattern.compile("\\| \\d+ \\| `" + m.getName() + "\\(" + numbers + "\\)` \\|");
            Check.due("README tells of " + m.getName(), true, () -> row.matcher(readme).find());
        }
        try (DirectoryStream<Path> tests = Files.newDirectoryStream(Path.of("src/test/java"), "*Test.java")) {
            for (Path test : tests) {
                String name = test.getFileName().toString().replace(".java", "");
                Check.due("README tells of " + name, true, () -> readme.contains("| `" + name + "` |"));
            }
        }
    }
}
