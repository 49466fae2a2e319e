import java.io.IOException;
import java.lang.reflect.Method;
import java.lang.reflect.Modifier;
import java.nio.file.Files;
import java.nio.file.Path;
import java.util.Set;
import java.util.TreeSet;
import java.util.regex.Matcher;
import java.util.regex.Pattern;

/** Each call that README.md shows has the answer that it shows. */
public final class ReadmeTest {
    private static final Check CHECK = new Check("ReadmeTest");
    private static final Pattern CALL = Pattern.compile("(?m)^x\\.(\\w+)\\(([-0-9, ]*)\\); +// (-?\\d+)");

    public static void main(String[] args) throws IOException, ReflectiveOperationException {
        String text = Files.readString(Path.of("README.md"));
        HalfFloats x = new HalfFloats();
        Matcher calls = CALL.matcher(text);
        int many = 0;
        while (calls.find()) {
            many++;
            String call = calls.group(1) + "(" + calls.group(2) + ")";
            CHECK.due(call, answer(x, calls.group(1), calls.group(2)), Long.parseLong(calls.group(3)));
        }
        CHECK.due("lines that begin with a call", many, (int) text.lines().filter(l -> l.startsWith("x.")).count());
        CHECK.holds("calls are shown", many >= 20);
        for (String name : names()) {
            CHECK.holds("README.md tells of " + name, Pattern.compile("`" + name + "[(`]").matcher(text).find());
        }
        CHECK.finish();
    }

    private static Set<String> names() {
        Set<String> names = new TreeSet<>();
        for (Method m : HalfFloats.class.getDeclaredMethods()) {
            if (Modifier.isPublic(m.getModifiers())) {
                names.add(m.getName());
            }
        }
        return names;
    }

    private static long answer(HalfFloats x, String name, String given) throws ReflectiveOperationException {
        String[] numbers = given.isBlank() ? new String[0] : given.split(", *");
        Class<?>[] types = new Class<?>[numbers.length];
        Object[] values = new Object[numbers.length];
        for (int i = 0; i < numbers.length; i++) {
            types[i] = int.class;
            values[i] = Integer.parseInt(numbers[i].trim());
        }
        return ((Number) HalfFloats.class.getMethod(name, types).invoke(x, values)).longValue();
    }
}
