import java.lang.reflect.Constructor;
import java.lang.reflect.Field;
import java.lang.reflect.Method;
import java.lang.reflect.Modifier;
import java.util.Arrays;
import java.util.Set;
import java.util.TreeSet;
import java.util.stream.Collectors;

/** The public face, as the document tells it and LANGUAGE.md 1 wants it. */
public final class FaceTest {
    private static final String FACE = "int line(int,int) int set(int,int) int event(int,int,int) int back() int read(int)"
        + " int hits(int) int hit(int,int,int) int by(int,int,int) int missed(int) int done(int) int pass(int,int,int)"
        + " int sum(int) int least() int drops(int) int even(int) int open() int better(int,int) int spare(int)"
        + " int seen(int,int) int forget() int never() int was(int) int ask() long chance(int,int) int tests(int,int,int)"
        + " int sheet(int,int,int) int lose(int) int put(int,int,int,int) int get(int,int,int)"
        + " int copy(int,int,int,int,int) int write(int) int count(int) long digest()";

    public static void main(String[] args) {
        face();
        membersArePrivate();
        noPrivateMethodIsCalledAsAPublicOne();
        Due.end();
    }

    private static String signature(Method m) {
        String types = Arrays.stream(m.getParameterTypes()).map(Class::getName).collect(Collectors.joining(","));
        return m.getReturnType().getName() + " " + m.getName() + "(" + types + ")";
    }

    private static void face() {
        Set<String> due = new TreeSet<>(Arrays.asList(FACE.split("(?<=\\)) ")));
        Set<String> found = new TreeSet<>();
        for (Method m : InkSwaths.class.getDeclaredMethods()) {
            if (Modifier.isPublic(m.getModifiers())) {
                found.add(signature(m));
            }
        }
        Due.is("public methods " + found, found.equals(due) ? 1 : 0, 1);
        Due.is("34 promises less the constructor", due.size(), 33);
        Due.is("public and final", InkSwaths.class.getModifiers(), Modifier.PUBLIC | Modifier.FINAL);
        Constructor<?>[] made = InkSwaths.class.getDeclaredConstructors();
        Due.is("one constructor", made.length, 1);
        Due.is("a public one", made[0].getModifiers(), Modifier.PUBLIC);
        Due.is("without arguments", made[0].getParameterCount(), 0);
    }

    private static void membersArePrivate() {
        Set<String> constants = new TreeSet<>();
        for (Field f : InkSwaths.class.getDeclaredFields()) {
            if (!Modifier.isPrivate(f.getModifiers())) {
                constants.add(f.getName());
            }
            if (Modifier.isStatic(f.getModifiers())) {
                Due.is(f.getName() + " is final", f.getModifiers() & Modifier.FINAL, Modifier.FINAL);
            }
        }
        Due.is("constants " + constants, constants.equals(Set.of("NONE", "BAD", "NOT", "FULL")) ? 1 : 0, 1);
        for (Method m : InkSwaths.class.getDeclaredMethods()) {
            boolean either = (m.getModifiers() & (Modifier.PUBLIC | Modifier.PRIVATE)) != 0;
            Due.is(m + " is public or private", either ? 1 : 0, 1);
        }
        for (Class<?> c : InkSwaths.class.getDeclaredClasses()) {
            Due.is(c + " is static", c.getModifiers() & Modifier.STATIC, Modifier.STATIC);
            Due.is(c + " is not public", c.getModifiers() & (Modifier.PUBLIC | Modifier.PROTECTED), 0);
        }
    }

    private static void noPrivateMethodIsCalledAsAPublicOne() {
        Set<String> names = Arrays.stream(InkSwaths.class.getDeclaredMethods())
            .filter(m -> Modifier.isPublic(m.getModifiers())).map(Method::getName).collect(Collectors.toSet());
        for (Method m : InkSwaths.class.getDeclaredMethods()) {
            boolean bears = !Modifier.isPublic(m.getModifiers()) && names.contains(m.getName());
            Due.is(m + " bears a public name", bears ? 1 : 0, 0);
        }
        for (Class<?> c : InkSwaths.class.getDeclaredClasses()) {
            for (Method m : c.getDeclaredMethods()) {
                Due.is(m + " bears a public name", names.contains(m.getName()) ? 1 : 0, 0);
            }
        }
    }
}
