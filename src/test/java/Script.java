import java.lang.reflect.InvocationTargetException;
import java.lang.reflect.Method;
import java.util.ArrayList;
import java.util.Arrays;
import java.util.List;
import java.util.regex.Matcher;
import java.util.regex.Pattern;

/** Runs of calls told as texts: "enter(20,500,0)*2 begin() text(n0;t5) follow()". */
final class Script {
    private static final Pattern STEP = Pattern.compile("(\\w+)\\(([^)]*)\\)(?:\\*(\\d+))?(?:=(\\S+))?");

    /** One call, and the answer that is due to it, or null if the script tells none. */
    static final class Step {
        final String call;
        final String due;

        Step(String call, String due) {
            this.call = call;
            this.due = due;
        }
    }

    private Script() {
    }

    /** "a()*2=1" is twice a(), each with the answer 1; "text(n0)" is append(110), append(48). */
    static List<Step> steps(String script) {
        List<Step> steps = new ArrayList<>();
        for (String word : script.trim().split("\\s+")) {
            Matcher m = STEP.matcher(word);
            if (!m.matches()) {
                throw new IllegalArgumentException("no step of a script: " + word + " in " + script);
            }
            int times = m.group(3) == null ? 1 : Integer.parseInt(m.group(3));
            for (int i = 0; i < times; i++) {
                if (m.group(1).equals("text")) {
                    for (char c : m.group(2).toCharArray()) {
                        steps.add(new Step("append(" + (int) c + ")", null));
                    }
                } else {
                    steps.add(new Step(m.group(1) + "(" + m.group(2) + ")", m.group(4)));
                }
            }
        }
        return steps;
    }

    static List<String> calls(String script) {
        List<String> calls = new ArrayList<>();
        if (!script.isBlank()) {
            for (Step step : steps(script)) {
                calls.add(step.call);
            }
        }
        return calls;
    }

    static SparrowRace run(List<String> calls) {
        SparrowRace race = new SparrowRace();
        for (String call : calls) {
            answer(race, call);
        }
        return race;
    }

    static String name(String call) {
        return call.substring(0, call.indexOf('('));
    }

    /** The answer as a text; of a call that throws, the capitals of the exception's name. */
    static String answer(SparrowRace race, String call) {
        String inside = call.substring(call.indexOf('(') + 1, call.length() - 1);
        String[] words = inside.isEmpty() ? new String[0] : inside.split(",");
        Class<?>[] types = new Class<?>[words.length];
        Object[] values = new Object[words.length];
        for (int i = 0; i < words.length; i++) {
            types[i] = int.class;
            values[i] = Integer.parseInt(words[i]);
        }
        try {
            Method method = SparrowRace.class.getMethod(name(call), types);
            return String.valueOf(method.invoke(race, values));
        } catch (InvocationTargetException e) {
            return e.getCause().getClass().getSimpleName().replaceAll("[^A-Z]", "");
        } catch (ReflectiveOperationException e) {
            throw new IllegalArgumentException("no call: " + call + Arrays.toString(types), e);
        }
    }
}
