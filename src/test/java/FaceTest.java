import java.lang.reflect.Constructor;
import java.lang.reflect.Field;
import java.lang.reflect.Method;
import java.lang.reflect.Modifier;
import java.util.Arrays;
import java.util.Set;
import java.util.TreeSet;

/** The public face is the document's, and nothing else can be seen of the class (LANGUAGE.md, rules 1 and 5). */
public final class FaceTest {
    private static final String[] FACE = {
        "int point(long, long, long)",
        "int size(int) NegativeArraySizeException",
        "int of(int, int) ArrayIndexOutOfBoundsException",
        "int at(int, int) ArrayIndexOutOfBoundsException NullPointerException",
        "int side(int, int, int)",
        "int circle(int, int, int, int)",
        "int filter(boolean)",
        "int decided(int)",
        "int between(int, int, int)",
        "int inside(int, int, int, int)",
        "int cross(int, int, int, int)",
        "int separated(int, int, int, int)",
        "int convex(int)",
        "int polygon(int, int)",
        "int winding(int, int)",
        "int nearest(int, int)",
        "int around(int, int, int)",
        "int order(int, int)",
        "long area(int, long) ArithmeticException",
        "int line(int, int)",
        "int lines(int, int)",
        "int count(int)",
    };

    public static void main(String[] args) {
        Due due = new Due();
        due.is("NONE", OrderJudge.NONE, -1);
        due.is("BAD", OrderJudge.BAD, -2);
        due.is("FULL", OrderJudge.FULL, -3);
        due.is("NOT", OrderJudge.NOT, -4);
        int modifiers = OrderJudge.class.getModifiers();
        due.is("public", Modifier.isPublic(modifiers) ? 1 : 0, 1);
        due.is("final", Modifier.isFinal(modifiers) ? 1 : 0, 1);
        methods(due);
        fields(due);
        constructors(due);
        nestedClasses(due);
        due.end();
    }

    private static void methods(Due due) {
        Set<String> want = new TreeSet<>(Arrays.asList(FACE));
        Set<String> got = new TreeSet<>();
        Set<String> publicNames = new TreeSet<>();
        for (Method m : OrderJudge.class.getDeclaredMethods()) {
            if (!Modifier.isPrivate(m.getModifiers()) && !m.isSynthetic()) {
                got.add(told(m));
                publicNames.add(m.getName());
                due.is(m + " public, of the object", Modifier.isPublic(m.getModifiers()) && !Modifier.isStatic(m.getModifiers()) ? 1 : 0, 1);
            }
        }
        due.is("methods of the face", want.equals(got) ? 1 : 0, 1);
        for (Method m : OrderJudge.class.getDeclaredMethods()) {
            if (Modifier.isPrivate(m.getModifiers())) {
                due.is("private " + m.getName() + " named as a public one", publicNames.contains(m.getName()) ? 1 : 0, 0);
            }
        }
    }

    private static String told(Method m) {
        StringBuilder text = new StringBuilder(m.getReturnType().getSimpleName() + " " + m.getName() + "(");
        String gap = "";
        for (Class<?> type : m.getParameterTypes()) {
            text.append(gap).append(type.getSimpleName());
            gap = ", ";
        }
        text.append(")");
        for (Class<?> type : m.getExceptionTypes()) {
            text.append(" ").append(type.getSimpleName());
        }
        return text.toString();
    }

    private static void fields(Due due) {
        Set<String> seen = new TreeSet<>();
        for (Field f : OrderJudge.class.getDeclaredFields()) {
            int m = f.getModifiers();
            if (!Modifier.isPrivate(m)) {
                seen.add(f.getName());
            }
            if (Modifier.isStatic(m)) {
                due.is("static " + f.getName() + " final", Modifier.isFinal(m) ? 1 : 0, 1);
                due.is("static " + f.getName() + " int", f.getType() == int.class ? 1 : 0, 1);
            }
        }
        due.is("constants of the face", seen.equals(new TreeSet<>(Arrays.asList("NONE", "BAD", "FULL", "NOT"))) ? 1 : 0, 1);
    }

    private static void constructors(Due due) {
        Constructor<?>[] all = OrderJudge.class.getDeclaredConstructors();
        due.is("constructors", all.length, 1);
        due.is("public constructor", Modifier.isPublic(all[0].getModifiers()) ? 1 : 0, 1);
        due.is("arguments of the constructor", all[0].getParameterCount(), 0);
    }

    private static void nestedClasses(Due due) {
        for (Class<?> nested : OrderJudge.class.getDeclaredClasses()) {
            int m = nested.getModifiers();
            due.is(nested + " static", Modifier.isStatic(m) ? 1 : 0, 1);
            due.is(nested + " hidden", Modifier.isPublic(m) || Modifier.isProtected(m) ? 1 : 0, 0);
            due.is(nested + " has some twenty fields at most", nested.getDeclaredFields().length <= 20 ? 1 : 0, 1);
        }
    }
}
