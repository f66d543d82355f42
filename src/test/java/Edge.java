import java.util.ArrayList;
import java.util.List;
import java.util.Set;

/**
 * Rows of calls with the answers that are due. What the document says of every call of a kind is
 * looked at with each of them that has an answer: one that throws changes nothing that any later
 * call shows, one that looks does not either, and one that is undoable is undone by undo().
 */
final class Edge {
    private static final Set<String> UNDOABLE = Set.of("enter", "setPace", "callIn", "pair", "setLimit",
        "setLaps", "begin", "pass", "follow", "goBack");
    private static final Set<String> NO_LOOKS = Set.of("append", "clearBuffer", "keep", "undo");
    private static final Set<String> REFUSALS = Set.of("IAE", "ISE", "IOOBE");
    private static final String[] SOON_AFTER = {"", "undo()"};
    private static final String[] LATER = {"", "undo()", "undo()*2", "undo()*5", "undo()*6", "goBack(0)",
        "goBack(1)", "begin() pass(30)", "pass(200)", "setLaps(9)", "enter(20,500,0)", "follow()",
        "clearBuffer()"};

    private Edge() {
    }

    static void due(String sentence, String... parts) {
        SparrowRace race = new SparrowRace();
        List<String> before = new ArrayList<>();
        for (Script.Step step : Script.steps(String.join(" ", parts))) {
            String answer = Script.answer(race, step.call);
            if (step.due != null) {
                Check.due(told(sentence, before, step.call), answer, step.due);
                alwaysDue(sentence, before, step);
            } else if (REFUSALS.contains(answer)) {
                Check.due(told(sentence, before, step.call), answer, "an answer");
            }
            before.add(step.call);
        }
    }

    private static String told(String sentence, List<String> before, String call) {
        return sentence + ": " + String.join(" ", before) + " | " + call;
    }

    private static void alwaysDue(String sentence, List<String> before, Script.Step step) {
        String name = Script.name(step.call);
        String told = told(sentence, before, step.call);
        if (REFUSALS.contains(step.due)) {
            changesNothing(told, before, step.call, LATER);
        } else if (UNDOABLE.contains(name)) {
            isUndone(told, before, step.call);
        } else if (!NO_LOOKS.contains(name)) {
            changesNothing(told, before, step.call, SOON_AFTER);
        } else if (!name.equals("undo")) {
            savesNothing(told, before, step.call);
        }
    }

    private static List<String> with(List<String> calls, String more) {
        List<String> all = new ArrayList<>(calls);
        all.addAll(Script.calls(more));
        return all;
    }

    private static void changesNothing(String told, List<String> before, String call, String[] afters) {
        for (String after : afters) {
            Check.due(told + " changes nothing, as seen by " + after,
                seen(with(before, call), after), seen(before, after));
        }
    }

    private static String seen(List<String> calls, String after) {
        SparrowRace race = Script.run(calls);
        StringBuilder answers = new StringBuilder();
        for (String call : Script.calls(after)) {
            answers.append(Script.answer(race, call)).append(' ');
        }
        return answers + Looks.whole(race);
    }

    private static void isUndone(String told, List<String> before, String call) {
        SparrowRace first = Script.run(before);
        SparrowRace undone = Script.run(with(with(before, call), "undo()"));
        int saved = Math.min(6, first.savedStates() + 1);
        Check.due(told + " saves one state", Script.run(with(before, call)).savedStates(), saved);
        Check.due(told + " is undone", Looks.state(undone), Looks.state(first));
        Check.due(told + " is undone but for the states", undone.savedStates(), saved - 1);
        int signs = call.equals("follow()") ? 0 : first.clearBuffer();
        Check.due(told + " leaves the buffer", undone.clearBuffer(), signs);
    }

    private static void savesNothing(String told, List<String> before, String call) {
        SparrowRace first = Script.run(before);
        SparrowRace then = Script.run(with(before, call));
        Check.due(told + " saves no state", then.savedStates(), first.savedStates());
        Check.due(told + " leaves the race", Looks.state(then), Looks.state(first));
    }
}
