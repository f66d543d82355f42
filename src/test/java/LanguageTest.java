import java.lang.reflect.Constructor;
import java.lang.reflect.Field;
import java.lang.reflect.Method;
import java.lang.reflect.Modifier;
import java.nio.file.Files;
import java.nio.file.Path;
import java.util.ArrayList;
import java.util.Arrays;
import java.util.List;
import java.util.Set;
import java.util.TreeSet;
import java.util.regex.Matcher;
import java.util.regex.Pattern;

/** Those rules of LANGUAGE.md that a search of the text or a look at the class can tell. */
final class LanguageTest {
    /** The document's face: each method with how many arguments it takes. */
    private static final String FACE = "enter3 setPace2 callIn1 pair2 setLimit2 setLaps1 begin0 pass1 append1 clearBuffer0"
        + " firstError0 follow0 keep1 goBack1 undo0 savedStates0 sparrows0 flown1 lapsOf1 speedOf1 strengthOf1 wearOf1"
        + " laneOf1 stateOf1 paceOf1 partnerOf1 isCalledIn1 limitOf1 placeByCounting1 birdByOrder1 gapAhead1 isDrafting1"
        + " whereIs1 allowance1 wouldFly2 wouldWin0 secondsToNext0 flownWithPace2 bestPace1 isRacing0 seconds0 arrived0"
        + " arrivedAt1 timeOf1 flownByBirds0 flownByAccount0 drafts0 changes0 rests0 races0 winsInPairs0 meanFlown0 digest0";

    private LanguageTest() {
    }

    static void run() throws Exception {
        words();
        throwsAndCatches();
        face();
        members();
        classesInside();
    }

    private static String code() throws Exception {
        String source = Files.readString(Path.of(System.getProperty("source", "src/main/java/SparrowRace.java")));
        return source.replaceAll("(?s)/\\*.*?\\*/", "").replaceAll("//.*", "");
    }

    private static void words() throws Exception {
        String code = code();
        String[] refused = {"->", "::", "\\bpackage\\b", "\\bsynchronized\\b", "\\bassert\\b", "\\bfinally\\b",
            "\\btry *\\(", "Exact\\(", "\\bObject\\b", "\\bSystem\\.(?!arraycopy)", "\\bDouble\\b", "\\bHashMap\\b",
            "\\bThread\\b", "\" *\\+", "\\+ *\"", "\\bhashCode\\b", "\\bgetMessage\\b",
            "\\bimport +(?!java\\.util\\.(\\*|ArrayList|List|Arrays|Iterator|NoSuchElementException) *;)"};
        for (String word : refused) {
            Check.due("the program holds " + word, Pattern.compile(word).matcher(code).find(), false);
        }
        for (char c : code.toCharArray()) {
            if (c > 126) {
                Check.due("a sign beyond 126", c, ' ');
            }
        }
    }

    private static void throwsAndCatches() throws Exception {
        Matcher thrown = Pattern.compile("\\bthrow\\b([^;]*);").matcher(code());
        while (thrown.find()) {
            Check.due("throw" + thrown.group(1), thrown.group(1).matches(" new (IllegalState|IllegalArgument"
                + "|IndexOutOfBounds|Arithmetic|UnsupportedOperation|NoSuchElement|Runtime)Exception\\((\"[^\"]*\")?\\)"), true);
        }
        String machine = "ArrayIndexOutOfBounds|StringIndexOutOfBounds|NullPointer|ClassCast|NegativeArraySize|ArrayStore";
        Matcher caught = Pattern.compile("\\bcatch *\\([^)]*\\b((" + machine + ")Exception|Exception|Throwable|Error)\\b")
            .matcher(code());
        Check.due("what the machine throws is caught", caught.find(), false);
    }

    private static void face() {
        List<String> got = new ArrayList<>();
        for (Method m : SparrowRace.class.getDeclaredMethods()) {
            if (Modifier.isPublic(m.getModifiers())) {
                got.add(m.getName() + m.getParameterCount());
            }
        }
        Check.due("the face", new TreeSet<>(got), new TreeSet<>(Arrays.asList(FACE.split(" "))));
        Check.due("each method of the face once", got.size(), 53);
        int made = SparrowRace.class.getModifiers();
        Check.due("public and final", Modifier.isPublic(made) && Modifier.isFinal(made), true);
        Constructor<?>[] constructors = SparrowRace.class.getDeclaredConstructors();
        Check.due("one constructor", constructors.length, 1);
        Check.due("without arguments", constructors[0].getParameterCount(), 0);
    }

    private static void members() {
        Set<String> face = new TreeSet<>();
        for (String method : FACE.split(" ")) {
            face.add(method.replaceAll("[0-9]", ""));
        }
        for (Method m : SparrowRace.class.getDeclaredMethods()) {
            if (!Modifier.isPublic(m.getModifiers())) {
                Check.due(m.getName() + " bears a public name", face.contains(m.getName()), false);
                Check.due(m.getName() + " is private", Modifier.isPrivate(m.getModifiers()), true);
            }
            Check.due(m.getName() + " takes at most seven", m.getParameterCount() <= 7, true);
        }
        for (Field f : SparrowRace.class.getDeclaredFields()) {
            Check.due(f.getName() + " is private", Modifier.isPrivate(f.getModifiers()), true);
            Check.due(f.getName() + " is final, if static",
                Modifier.isFinal(f.getModifiers()) || !Modifier.isStatic(f.getModifiers()), true);
        }
    }

    private static void classesInside() {
        for (Class<?> inside : SparrowRace.class.getDeclaredClasses()) {
            int made = inside.getModifiers();
            Check.due(inside.getName() + " is private or of the package",
                Modifier.isPublic(made) || Modifier.isProtected(made), false);
            for (Field f : inside.getDeclaredFields()) {
                Check.due(f.getName() + " inside is final, if static",
                    Modifier.isFinal(f.getModifiers()) || !Modifier.isStatic(f.getModifiers()), true);
            }
        }
    }
}
