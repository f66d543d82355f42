import java.lang.reflect.Constructor;
import java.lang.reflect.Field;
import java.lang.reflect.Method;
import java.lang.reflect.Modifier;
import java.nio.file.Files;
import java.nio.file.Path;
import java.util.ArrayList;
import java.util.Arrays;
import java.util.List;
import java.util.Set;
import java.util.TreeSet;
import java.util.regex.Matcher;
import java.util.regex.Pattern;

/** Those rules of LANGUAGE.md that a search of the text or a look at the class can tell. */
final class LanguageTest {
    /** The document's face: each method with what it answers, takes and throws, in the order of its throws clause. */
    private static final String FACE = """
        int enter(int,int,int) IAE ISE
        int setPace(int,int) IOOBE IAE
        boolean callIn(int) IOOBE ISE
        int pair(int,int) IOOBE IAE
        int setLimit(int,int) IOOBE IAE
        int setLaps(int) IAE ISE
        int begin() ISE
        int pass(int) IAE ISE
        int append(int) IAE ISE
        int clearBuffer()
        int firstError()
        int follow() IAE ISE
        void keep(int) IAE
        void goBack(int) IAE ISE
        void undo() ISE
        int savedStates()
        int sparrows()
        int flown(int) IOOBE
        int lapsOf(int) IOOBE
        int speedOf(int) IOOBE
        int strengthOf(int) IOOBE
        int wearOf(int) IOOBE
        int laneOf(int) IOOBE
        int stateOf(int) IOOBE
        int paceOf(int) IOOBE
        int partnerOf(int) IOOBE ISE
        boolean isCalledIn(int) IOOBE
        int limitOf(int) IOOBE
        int placeByCounting(int) IOOBE
        int birdByOrder(int) IOOBE
        int gapAhead(int) IOOBE
        boolean isDrafting(int) IOOBE ISE
        int whereIs(int) IOOBE
        int allowance(int) IOOBE ISE
        int wouldFly(int,int) IOOBE IAE ISE
        int wouldWin() ISE
        int secondsToNext() ISE
        int flownWithPace(int,int) IOOBE IAE ISE
        int bestPace(int) IOOBE ISE
        boolean isRacing()
        int seconds()
        int arrived()
        int arrivedAt(int) IOOBE
        int timeOf(int) IOOBE ISE
        int flownByBirds()
        int flownByAccount()
        int drafts()
        int changes()
        int rests()
        int races()
        int winsInPairs()
        double meanFlown()
        long digest()""";

    private LanguageTest() {
    }

    static void run() throws Exception {
        words();
        throwsAndCatches();
        face();
        members();
        classesInside();
        shortMethods();
    }

    private static String code() throws Exception {
        String source = Files.readString(Path.of(System.getProperty("source", "src/main/java/SparrowRace.java")));
        return source.replaceAll("(?s)/\\*.*?\\*/", "").replaceAll("//.*", "");
    }

    private static void words() throws Exception {
        String code = code();
        String[] refused = {"->", "::", "\\bpackage\\b", "\\bsynchronized\\b", "\\bassert\\b", "\\bfinally\\b",
            "\\btry *\\(", "Exact\\(", "\\bObject\\b", "\\bSystem\\.(?!arraycopy)", "\\bDouble\\b", "\\bHashMap\\b",
            "\\bThread\\b", "\" *\\+", "\\+ *\"", "\\bhashCode\\b", "\\bgetMessage\\b",
            "\\bimport +(?!java\\.util\\.(\\*|ArrayList|List|Arrays|Iterator|NoSuchElementException) *;)"};
        for (String word : refused) {
            Check.due("the program holds " + word, Pattern.compile(word).matcher(code).find(), false);
        }
        for (char c : code.toCharArray()) {
            if (c > 126) {
                Check.due("a sign beyond 126", c, ' ');
            }
        }
    }

    private static void throwsAndCatches() throws Exception {
        Matcher thrown = Pattern.compile("\\bthrow\\b([^;]*);").matcher(code());
        while (thrown.find()) {
            Check.due("throw" + thrown.group(1), thrown.group(1).matches(" new (IllegalState|IllegalArgument"
                + "|IndexOutOfBounds|Arithmetic|UnsupportedOperation|NoSuchElement|Runtime)Exception\\((\"[^\"]*\")?\\)"), true);
        }
        String machine = "ArrayIndexOutOfBounds|StringIndexOutOfBounds|NullPointer|ClassCast|NegativeArraySize|ArrayStore";
        Matcher caught = Pattern.compile("\\bcatch *\\([^)]*\\b((" + machine + ")Exception|Exception|Throwable|Error)\\b")
            .matcher(code());
        Check.due("what the machine throws is caught", caught.find(), false);
    }

    /** A method as the face tells it. */
    private static String told(Method m) {
        StringBuilder told = new StringBuilder(m.getReturnType().getName()).append(' ').append(m.getName()).append('(');
        for (Class<?> type : m.getParameterTypes()) {
            told.append(told.charAt(told.length() - 1) == '(' ? "" : ",").append(type.getName());
        }
        told.append(')');
        for (Class<?> thrown : m.getExceptionTypes()) {
            told.append(' ').append(thrown.getSimpleName().replaceAll("[^A-Z]", ""));
        }
        return told.toString();
    }

    private static void face() {
        List<String> due = Arrays.asList(FACE.split("\n"));
        List<String> got = new ArrayList<>();
        for (Method m : SparrowRace.class.getDeclaredMethods()) {
            if (Modifier.isPublic(m.getModifiers())) {
                got.add(told(m));
                Check.due("the face has " + told(m), due.contains(told(m)), true);
                Check.due(m.getName() + " is of the object", Modifier.isStatic(m.getModifiers()), false);
            }
        }
        Check.due("the face", new TreeSet<>(got), new TreeSet<>(due));
        Check.due("each method of the face once", got.size(), 53);
        int made = SparrowRace.class.getModifiers();
        Check.due("public and final", Modifier.isPublic(made) && Modifier.isFinal(made), true);
        Constructor<?>[] constructors = SparrowRace.class.getDeclaredConstructors();
        Check.due("one constructor", constructors.length, 1);
        Check.due("without arguments", constructors[0].getParameterCount(), 0);
    }

    private static void members() {
        Set<String> face = new TreeSet<>();
        for (String method : FACE.split("\n")) {
            face.add(method.replaceAll("^\\w+ |\\(.*", ""));
        }
        for (Method m : SparrowRace.class.getDeclaredMethods()) {
            if (!Modifier.isPublic(m.getModifiers())) {
                Check.due(m.getName() + " bears a public name", face.contains(m.getName()), false);
                Check.due(m.getName() + " is private", Modifier.isPrivate(m.getModifiers()), true);
            }
            Check.due(m.getName() + " takes at most seven", m.getParameterCount() <= 7, true);
        }
        for (Field f : SparrowRace.class.getDeclaredFields()) {
            Check.due(f.getName() + " is private", Modifier.isPrivate(f.getModifiers()), true);
            Check.due(f.getName() + " is final, if static",
                Modifier.isFinal(f.getModifiers()) || !Modifier.isStatic(f.getModifiers()), true);
        }
    }

    private static void fewFields(Class<?> made) {
        int fields = 0;
        for (Field f : made.getDeclaredFields()) {
            fields += Modifier.isStatic(f.getModifiers()) ? 0 : 1;
        }
        Check.due(made.getName() + " has some twenty fields at most", fields <= 20, true);
    }

    private static void classesInside() {
        Check.due("some twelve classes at most", SparrowRace.class.getDeclaredClasses().length < 12, true);
        fewFields(SparrowRace.class);
        for (Class<?> inside : SparrowRace.class.getDeclaredClasses()) {
            fewFields(inside);
            int made = inside.getModifiers();
            Check.due(inside.getName() + " is private or of the package",
                Modifier.isPublic(made) || Modifier.isProtected(made), false);
            for (Field f : inside.getDeclaredFields()) {
                Check.due(f.getName() + " inside is final, if static",
                    Modifier.isFinal(f.getModifiers()) || !Modifier.isStatic(f.getModifiers()), true);
            }
        }
    }

    private static void shortMethods() throws Exception {
        int lines = 0;
        int longest = 0;
        for (String line : code().split("\n")) {
            boolean begins = line.matches(" {4}( {4})?(public|private|[A-Za-z\\[\\]]+) .*\\(.*") && !line.contains(" class ");
            lines = begins ? 1 : lines + 1;
            longest = Math.max(longest, line.matches(" {4}( {4})?\\}") ? lines : 0);
        }
        Check.due("the longest method has " + longest + " lines", longest > 10 && longest <= 60, true);
    }
}
