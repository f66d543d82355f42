import java.util.Objects;

/** What the tests share: the counting, and calls that must be refused and change nothing. */
final class Check {
    static int passed = 0;
    static int failed = 0;

    interface Act {
        void run();
    }

    private Check() {
    }

    static void due(String what, Object got, Object want) {
        if (Objects.equals(got, want)) {
            passed++;
        } else {
            failed++;
            System.out.println(what + " answered " + got + ", due is " + want);
        }
    }

    static void refused(String what, SparrowRace race, Class<? extends RuntimeException> due, Act act) {
        long before = race.digest();
        Object thrown = null;
        try {
            act.run();
        } catch (RuntimeException e) {
            thrown = e.getClass();
        }
        due(what + " throws", thrown, due);
        due(what + " changes nothing", race.digest(), before);
    }

    static void noBird(String what, SparrowRace race, Act act) {
        refused(what, race, IndexOutOfBoundsException.class, act);
    }

    static void badArgument(String what, SparrowRace race, Act act) {
        refused(what, race, IllegalArgumentException.class, act);
    }

    static void badState(String what, SparrowRace race, Act act) {
        refused(what, race, IllegalStateException.class, act);
    }

    /** An undoable call saves one state, and undo brings back all that was seen before it. */
    static void undoable(String what, SparrowRace race, Act act) {
        String before = Looks.state(race);
        int saved = race.savedStates();
        act.run();
        due(what + " saves a state", race.savedStates(), Math.min(6, saved + 1));
        String after = Looks.state(race);
        race.undo();
        due(what + " is undone", Looks.state(race), before);
        act.run();
        due(what + " does the same again", Looks.state(race), after);
    }
}
