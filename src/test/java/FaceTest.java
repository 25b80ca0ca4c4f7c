import java.io.IOException;
import java.lang.reflect.Field;
import java.lang.reflect.Method;
import java.lang.reflect.Modifier;
import java.nio.file.Files;
import java.nio.file.Path;
import java.util.ArrayList;
import java.util.Arrays;
import java.util.List;
import java.util.Set;
import java.util.TreeSet;
import java.util.regex.Matcher;
import java.util.regex.Pattern;

/** The document's face and constants, and what of LANGUAGE.md can be seen from outside. */
final class FaceTest {
    private static final List<String> FACE = List.of("int put(int)", "int cut(int)", "int poke(int,int)",
        "int at(int)", "int length()", "int draw(long,int,int)", "int bomb(int,int,int)", "int plant(int)",
        "int open(int,int,int)", "int plain(int,int,int)", "int told(int)", "int given(int)",
        "int shorter(int,int,int)");
    private static final Pattern BANNED = Pattern.compile("\\b(throw|throws|try|catch|finally|synchronized|assert"
        + "|import|package|protected|native|volatile|transient|System\\.(?!arraycopy)\\w+|\\w+Exact"
        + "|hashCode|Thread|Random|Object)\\b|->|::");

    public static void main(String[] args) throws IOException {
        Check check = new Check("FaceTest");
        constants(check);
        members(check);
        nested(check);
        source(check);
        check.end();
    }

    private static void constants(Check check) {
        check.due("NONE", PackDrawer.NONE, -1);
        check.due("BAD", PackDrawer.BAD, -2);
        check.due("FULL", PackDrawer.FULL, -3);
        check.due("NO", PackDrawer.NO, -4);
    }

    private static String face(Method m) {
        List<String> types = new ArrayList<>();
        for (Class<?> type : m.getParameterTypes()) {
            types.add(type.getSimpleName());
        }
        return m.getReturnType().getSimpleName() + " " + m.getName() + "(" + String.join(",", types) + ")";
    }

    private static void members(Check check) {
        Class<?> c = PackDrawer.class;
        check.holds("public and final", Modifier.isPublic(c.getModifiers()) && Modifier.isFinal(c.getModifiers()));
        check.due("constructors", c.getDeclaredConstructors().length, 1);
        check.holds("a public constructor", Modifier.isPublic(c.getDeclaredConstructors()[0].getModifiers()));
        Set<String> seen = new TreeSet<>();
        for (Method m : c.getDeclaredMethods()) {
            if (Modifier.isPublic(m.getModifiers())) {
                seen.add(face(m));
            } else {
                check.holds(m.getName() + " is private", Modifier.isPrivate(m.getModifiers()));
            }
        }
        check.holds("the face is " + seen, seen.equals(new TreeSet<>(FACE)));
        Set<String> fields = new TreeSet<>();
        for (Field f : c.getDeclaredFields()) {
            if (Modifier.isPublic(f.getModifiers())) {
                fields.add(f.getName());
            } else {
                check.holds(f.getName() + " is private", Modifier.isPrivate(f.getModifiers()));
            }
        }
        check.holds("public fields", fields.equals(new TreeSet<>(Arrays.asList("NONE", "BAD", "FULL", "NO"))));
    }

    private static void nested(Check check) {
        Class<?>[] classes = PackDrawer.class.getDeclaredClasses();
        check.holds("twelve classes at most", classes.length <= 11);
        for (Class<?> c : classes) {
            check.holds(c + " is static", Modifier.isStatic(c.getModifiers()));
            check.holds(c + " is not public", !Modifier.isPublic(c.getModifiers()));
            int held = 0;
            for (Field f : c.getDeclaredFields()) {
                check.holds(f + " is final if static",
                    !Modifier.isStatic(f.getModifiers()) || Modifier.isFinal(f.getModifiers()));
                held += Modifier.isStatic(f.getModifiers()) ? 0 : 1;
            }
            check.holds(c + " has twenty fields at most", held <= 20);
            for (Method m : c.getDeclaredMethods()) {
                check.holds(m + " has seven parameters at most", m.getParameterCount() <= 7);
                for (String of : FACE) {
                    check.holds(m + " bears no public name", !of.contains(" " + m.getName() + "("));
                }
            }
        }
    }

    private static void source(Check check) throws IOException {
        String text = Files.readString(Path.of("src/main/java/PackDrawer.java"));
        String code = text.replaceAll("(?s)/\\*.*?\\*/", " ").replaceAll("//[^\n]*", " ");
        Matcher banned = BANNED.matcher(code);
        while (banned.find()) {
            check.holds("no " + banned.group(), false);
        }
        check.holds("no text beyond ASCII", text.chars().allMatch(ch -> ch < 128));
    }
}
