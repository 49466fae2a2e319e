import java.io.IOException;
import java.lang.reflect.Constructor;
import java.lang.reflect.Field;
import java.lang.reflect.Method;
import java.lang.reflect.Modifier;
import java.nio.file.Files;
import java.nio.file.Path;
import java.util.Set;
import java.util.TreeSet;
import java.util.regex.Matcher;
import java.util.regex.Pattern;

/** The public face, and those rules of the language that can be seen from outside or in the text. */
public final class FaceTest {
    private static final Check CHECK = new Check("FaceTest");
    private static final Set<String> METHODS = Set.of(
        "int format(int,int,int,int)", "int form(int,int)", "int part(int,int,int)", "long turn(int,int,int,int)",
        "long reckon(int,int,int,int,int,int,int)", "long fused(int,int,int,int,int,int)",
        "int compare(int,int,int,int)", "int flags()", "int seed(int)", "int clear(int,int)", "int push(int,int)",
        "long at(int,int)", "int count(int)", "long sum(int,int,int,int)", "long dot(int,int,int,int)",
        "int scale(int)", "long element(int,int)", "int scaler(int,int)", "int step(int)", "int kept(int,int,int)");

    public static void main(String[] args) throws IOException {
        constants();
        methods();
        fieldsAndConstructors();
        innerClasses();
        sizes(HalfFloats.class);
        for (Class<?> c : HalfFloats.class.getDeclaredClasses()) {
            sizes(c);
        }
        text();
        lengths();
        CHECK.finish();
    }

    private static void constants() {
        CHECK.due("NONE", HalfFloats.NONE, -1);
        CHECK.due("BAD", HalfFloats.BAD, -2);
        CHECK.due("FULL", HalfFloats.FULL, -3);
    }

    private static void methods() {
        Set<String> open = new TreeSet<>();
        Set<String> openNames = new TreeSet<>();
        for (Method m : HalfFloats.class.getDeclaredMethods()) {
            if (Modifier.isPublic(m.getModifiers())) {
                String full = m.toString();
                open.add(m.getReturnType() + " " + full.substring(full.indexOf("HalfFloats.") + 11));
                openNames.add(m.getName());
                CHECK.holds(m + " is no static one", !Modifier.isStatic(m.getModifiers()));
            }
        }
        CHECK.holds("the public methods are " + open, open.equals(new TreeSet<>(METHODS)));
        for (Method m : HalfFloats.class.getDeclaredMethods()) {
            boolean closed = Modifier.isPrivate(m.getModifiers());
            CHECK.holds(m + " is public or private", closed || Modifier.isPublic(m.getModifiers()));
            CHECK.holds(m + " has a name of its own", !closed || !openNames.contains(m.getName()));
        }
    }

    private static void fieldsAndConstructors() {
        Set<String> open = new TreeSet<>();
        for (Field f : HalfFloats.class.getDeclaredFields()) {
            int how = f.getModifiers();
            if (!Modifier.isPrivate(how)) {
                open.add(f.getName());
            }
            CHECK.holds(f + " is final if it is static", !Modifier.isStatic(how) || Modifier.isFinal(how));
        }
        CHECK.holds("the open fields are " + open, open.equals(Set.of("NONE", "BAD", "FULL")));
        Constructor<?>[] made = HalfFloats.class.getDeclaredConstructors();
        CHECK.due("constructors", made.length, 1);
        CHECK.due("its parameters", made[0].getParameterCount(), 0);
        CHECK.holds("it is public", Modifier.isPublic(made[0].getModifiers()));
        CHECK.holds("the class is public and final",
            Modifier.isPublic(HalfFloats.class.getModifiers()) && Modifier.isFinal(HalfFloats.class.getModifiers()));
    }

    private static void innerClasses() {
        for (Class<?> c : HalfFloats.class.getDeclaredClasses()) {
            int how = c.getModifiers();
            CHECK.holds(c + " is static and not public",
                Modifier.isStatic(how) && !Modifier.isPublic(how) && !Modifier.isProtected(how));
            for (Field f : c.getDeclaredFields()) {
                boolean changes = Modifier.isStatic(f.getModifiers()) && !Modifier.isFinal(f.getModifiers());
                CHECK.holds(f + " is no static state", !changes);
            }
        }
    }

    /** Rule 11: seven parameters, twenty fields beside the constants, twelve classes. */
    private static void sizes(Class<?> c) {
        for (Method m : c.getDeclaredMethods()) {
            CHECK.holds(m + " has seven parameters at most", m.getParameterCount() <= 7);
        }
        int fields = 0;
        for (Field f : c.getDeclaredFields()) {
            fields += Modifier.isStatic(f.getModifiers()) ? 0 : 1;
        }
        CHECK.holds(c + " has twenty fields at most", fields <= 20);
        CHECK.holds(c + " has few classes inside", c.getDeclaredClasses().length < 12);
    }

    /** Rule 11: a method has some sixty lines at most; it ends where a brace stands below its first letter. */
    private static void lengths() throws IOException {
        Pattern head = Pattern.compile("(?m)^( +)[A-Za-z][^;=\n]*\\) \\{\n(?s:(.*?))^\\1\\}");
        Matcher methods = head.matcher(source());
        int many = 0;
        while (methods.find()) {
            many++;
            CHECK.holds(methods.group().trim().lines().findFirst().orElse("") + " is short",
                methods.group(2).lines().count() <= 60);
        }
        CHECK.holds("the methods are found", many >= METHODS.size());
    }

    private static String source() throws IOException {
        return Files.readString(Path.of("src/main/java/HalfFloats.java"));
    }

    private static void text() throws IOException {
        String text = source();
        String code = text.replaceAll("(?s)/\\*.*?\\*/", "").replaceAll("//[^\n]*", "");
        String[] words = {"throw", "throws", "try", "catch", "finally", "synchronized", "assert", "package", "native",
            "Object", "Exception", "Random", "System", "Thread", "hashCode", "toString", "protected", "volatile"};
        for (String word : words) {
            CHECK.holds("no " + word, !Pattern.compile("\\b" + word + "\\b").matcher(code).find());
        }
        CHECK.holds("no lambda", !code.contains("->"));
        CHECK.holds("no method reference", !code.contains("::"));
        CHECK.holds("no Exact of Math", !Pattern.compile("\\w+Exact\\(").matcher(code).find());
    }
}
