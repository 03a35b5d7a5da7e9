import java.lang.reflect.Constructor;
import java.lang.reflect.Field;
import java.lang.reflect.Method;
import java.lang.reflect.Modifier;
import java.util.Set;
import java.util.TreeSet;

/** The face is the document's, and nothing else of the class can be seen from outside. */
public final class FaceTest {
    private static final Set<String> METHODS = Set.of(
        "int feed(int, int, int, int, int)", "boolean end(int)", "int ticks(int) IllegalArgumentException",
        "int act(int, int, int, int, int) IllegalArgumentException UnsupportedOperationException",
        "int look(int, int) IndexOutOfBoundsException NoSuchElementException",
        "void may(int, int) IllegalArgumentException IndexOutOfBoundsException",
        "int ask(int) IllegalArgumentException IllegalStateException IndexOutOfBoundsException"
            + " UnsupportedOperationException",
        "int fault()", "int finds(int, int) IndexOutOfBoundsException",
        "int found(int, int, int) IndexOutOfBoundsException",
        "int proof(int, int, int, int) IndexOutOfBoundsException",
        "int exempt(int, int, int) IllegalArgumentException IndexOutOfBoundsException",
        "int spared(int, int) IndexOutOfBoundsException", "void gap(int) IllegalArgumentException", "int cases()",
        "int joined(int, int) IndexOutOfBoundsException", "int cost(int, int) IndexOutOfBoundsException",
        "int widest(int, int) IndexOutOfBoundsException", "int count(int)");

    public static void main(String[] args) {
        Class<?> c = LogHunt.class;
        Check.due("public and final", Modifier.PUBLIC | Modifier.FINAL, c::getModifiers);
        Set<String> seen = new TreeSet<>();
        Set<String> names = new TreeSet<>();
        for (Method m : c.getDeclaredMethods()) {
            if (Modifier.isPrivate(m.getModifiers())) continue;
            seen.add(sign(m));
            names.add(m.getName());
        }
        Check.due("methods", new TreeSet<>(METHODS), () -> seen);
        for (Class<?> inside : c.getDeclaredClasses()) {
            Check.due(inside + " is static", true, () -> Modifier.isStatic(inside.getModifiers()));
            Check.due(inside + " is not public", false,
                () -> Modifier.isPublic(inside.getModifiers()) || Modifier.isProtected(inside.getModifiers()));
            for (Method m : inside.getDeclaredMethods()) {
                Check.due(m + " has a name of its own", false, () -> names.contains(m.getName()));
            }
        }
        for (Method m : c.getDeclaredMethods()) {
            if (!Modifier.isPrivate(m.getModifiers())) continue;
            Check.due(m + " has a name of its own", false, () -> names.contains(m.getName()));
        }
        for (Field f : c.getDeclaredFields()) {
            Check.due(f + " is private", f.getName().equals("NONE"), () -> !Modifier.isPrivate(f.getModifiers()));
            if (Modifier.isStatic(f.getModifiers())) {
                Check.due(f + " is final", true, () -> Modifier.isFinal(f.getModifiers()));
            }
        }
        Constructor<?>[] makers = c.getDeclaredConstructors();
        Check.due("one constructor", 1, () -> makers.length);
        Check.due("without arguments", 0, () -> makers[0].getParameterCount());
        Check.due("public", true, () -> Modifier.isPublic(makers[0].getModifiers()));
        Check.close("FaceTest");
    }

    private static String sign(Method m) {
        StringBuilder s = new StringBuilder(m.getReturnType().getSimpleName()).append(' ').append(m.getName()).append('(');
        for (int i = 0; i < m.getParameterCount(); i++) {
            if (i > 0) s.append(", ");
            s.append(m.getParameterTypes()[i].getSimpleName());
        }
        s.append(')');
        Set<String> thrown = new TreeSet<>();
        for (Class<?> e : m.getExceptionTypes()) thrown.add(e.getSimpleName());
        for (String e : thrown) s.append(' ').append(e);
        return s.toString();
    }
}
