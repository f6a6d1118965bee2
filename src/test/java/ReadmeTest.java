import java.io.IOException;
import java.lang.reflect.Method;
import java.nio.file.Files;
import java.nio.file.Path;
import java.util.Arrays;
import java.util.regex.Matcher;
import java.util.regex.Pattern;

/** Each call in README.md, in its order, answers what stands behind it; and each of the face is named there. */
public final class ReadmeTest {
    private static final Pattern CALL = Pattern.compile("^x\\.(\\w+)\\(([^)]*)\\);\\s*// (-?\\d+): .*$", Pattern.MULTILINE);

    public static void main(String[] args) throws IOException, ReflectiveOperationException {
        String text = Files.readString(Path.of("README.md"));
        InkSwaths x = new InkSwaths();
        Matcher call = CALL.matcher(text);
        int calls = 0;
        while (call.find()) {
            calls++;
            Due.is(call.group(), answer(x, call.group(1), call.group(2)), Long.parseLong(call.group(3)));
        }
        Due.is("every call has its answer behind it", text.split("\nx\\.", -1).length - 1, calls);
        Due.is("there are some", calls > 20 ? 1 : 0, 1);
        for (Method m : InkSwaths.class.getMethods()) {
            if (m.getDeclaringClass() == InkSwaths.class) {
                Due.is("it names " + m.getName(), text.contains("`" + m.getName() + "`") ? 1 : 0, 1);
            }
        }
        Due.end();
    }

    private static long answer(InkSwaths x, String name, String arguments) throws ReflectiveOperationException {
        String plain = arguments.replace("InkSwaths.NONE", "-1");
        Object[] numbers = plain.isBlank() ? new Object[0]
            : Arrays.stream(plain.split(", ")).map(Integer::valueOf).toArray();
        Class<?>[] types = new Class<?>[numbers.length];
        Arrays.fill(types, int.class);
        return ((Number) InkSwaths.class.getMethod(name, types).invoke(x, numbers)).longValue();
    }
}
