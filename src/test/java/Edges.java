import java.lang.annotation.ElementType;
import java.lang.annotation.Retention;
import java.lang.annotation.RetentionPolicy;
import java.lang.annotation.Target;
import java.lang.reflect.InvocationTargetException;
import java.lang.reflect.Method;
import java.util.Arrays;
import java.util.Comparator;
import java.util.List;

/** A test whose methods each hold one sentence of the document; a wrong answer is told with that sentence. */
abstract class Edges extends Desks {
    /** The words of the document that a method holds. */
    @Retention(RetentionPolicy.RUNTIME)
    @Target(ElementType.METHOD)
    @interface Says {
        String value();
    }

    private static String sentence;
    private static int answers;

    /** All methods with a sentence, or those alone whose names are given. */
    static void hold(Class<?> test, String[] names) {
        Method[] methods = test.getDeclaredMethods();
        Arrays.sort(methods, Comparator.comparing(Method::getName));
        for (Method m : methods) {
            boolean isAsked = names.length == 0 || List.of(names).contains(m.getName());
            if (m.isAnnotationPresent(Says.class) && isAsked) {
                holdOne(m);
            }
        }
        Check.close(test.getSimpleName());
    }

    private static void holdOne(Method m) {
        sentence = m.getName() + ", '" + m.getAnnotation(Says.class).value() + "'";
        answers = 0;
        try {
            m.setAccessible(true);
            m.invoke(null);
        } catch (InvocationTargetException e) {
            Check.due(sentence + ", behind answer " + answers, "no exception", () -> "throws " + e.getCause());
        } catch (IllegalAccessException e) {
            throw new AssertionError(e);
        }
        int held = answers;
        Check.due(sentence + " looks at some answer", true, () -> held > 0);
    }

    static void due(Object want, Check.Call call) {
        answers++;
        Check.due(sentence + ", answer " + answers, want, call);
    }

    static void dueAll(Object want, Check.Call... calls) {
        for (Check.Call call : calls) {
            due(want, call);
        }
    }

    /** What finds() answers NOW to a text, with these ACTS alone, all told NOW. */
    static int finds(String text, int now, int[]... acts) {
        LogHunt x = with(now, acts);
        return x.finds(Check.ask(x, text), now);
    }

    /** Texts with a ^ ahead of the first wrong byte; those without one are right. */
    static void texts(String... marked) {
        for (String m : marked) {
            text(m.replace("^", ""), m.indexOf('^'));
        }
    }

    static void text(String text, int firstWrong) {
        LogHunt x = new LogHunt();
        Check.lay(x, text);
        answers++;
        String label = sentence + ", text '" + text + "'";
        Check.due(label, firstWrong == NONE ? 0 : ARGUMENT, () -> x.ask(0));
        Check.due(label + ", fault", firstWrong, x::fault);
    }
}
