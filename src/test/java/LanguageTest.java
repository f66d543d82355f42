import java.lang.reflect.Field;
import java.lang.reflect.Member;
import java.lang.reflect.Method;
import java.lang.reflect.Modifier;
import java.nio.file.Files;
import java.nio.file.Path;
import java.util.Set;
import java.util.TreeSet;
import java.util.regex.Matcher;
import java.util.regex.Pattern;

/** Those rules of LANGUAGE.md that a search of the text or a look at the class can tell. */
final class LanguageTest {
    private LanguageTest() {
    }

    static void run() throws Exception {
        words();
        exceptions();
        members();
    }

    private static String source() throws Exception {
        return Files.readString(Path.of(System.getProperty("source", "src/main/java/SparrowRace.java")));
    }

    private static void words() throws Exception {
        String code = source().replaceAll("(?s)/\\*.*?\\*/", "").replaceAll("//.*", "");
        String[] refused = {"->", "::", "\\bimport\\b", "\\bpackage\\b", "\\bsynchronized\\b", "\\bassert\\b",
            "\\bfinally\\b", "\\bcatch\\b", "Exact\\(", "\\bObject\\b", "\\bvar\\b", "\\bSystem\\.(?!arraycopy)",
            "\\bDouble\\b", "\\bHashMap\\b", "\\bThread\\b", "\" *\\+", "\\+ *\"", "\\bhashCode\\b", "\\btoString\\b"};
        for (String word : refused) {
            Check.due("the program holds " + word, Pattern.compile(word).matcher(code).find(), false);
        }
        for (char c : code.toCharArray()) {
            if (c > 126) {
                Check.due("a sign beyond 126", c, ' ');
            }
        }
    }

    private static void exceptions() throws Exception {
        Matcher m = Pattern.compile("\\bthrow\\b([^;]*);").matcher(source());
        while (m.find()) {
            Check.due("throw" + m.group(1), m.group(1).matches(
                " new (IllegalState|IllegalArgument|IndexOutOfBounds)Exception\\(\"[^\"]*\"\\)"), true);
        }
    }

    private static void members() {
        Class<?> c = SparrowRace.class;
        Check.due("public and final", Modifier.isPublic(c.getModifiers()) && Modifier.isFinal(c.getModifiers()), true);
        Set<String> face = new TreeSet<>();
        int faceMethods = 0;
        for (Method m : c.getDeclaredMethods()) {
            if (Modifier.isPublic(m.getModifiers())) {
                face.add(m.getName());
                faceMethods++;
            }
        }
        Check.due("public methods", faceMethods, 54 - 1);
        for (Method m : c.getDeclaredMethods()) {
            own(m, m.isSynthetic());
            if (!Modifier.isPublic(m.getModifiers())) {
                Check.due(m.getName() + " bears a public name", face.contains(m.getName()), false);
                Check.due(m.getName() + " is private", Modifier.isPrivate(m.getModifiers()), true);
            }
            Check.due(m.getName() + " takes at most seven", m.getParameterCount() <= 7, true);
        }
        for (Field f : c.getDeclaredFields()) {
            Check.due(f.getName() + " is private", Modifier.isPrivate(f.getModifiers()), true);
            Check.due(f.getName() + " is final", Modifier.isFinal(f.getModifiers()), true);
        }
        Class<?>[] inside = c.getDeclaredClasses();
        Check.due("at most twelve classes", inside.length <= 11, true);
        for (Class<?> i : inside) {
            Check.due(i.getName() + " is static", Modifier.isStatic(i.getModifiers()), true);
            Check.due(i.getName() + " is not public", Modifier.isPublic(i.getModifiers()), false);
            for (Method m : i.getDeclaredMethods()) {
                Check.due(m.getName() + " bears a public name", face.contains(m.getName()), false);
            }
        }
    }

    private static void own(Member m, boolean synthetic) {
        Check.due(m.getName() + " is written", synthetic, false);
    }
}
