/** Promises 14 to 17. */
final class SnapshotTests {
    private SnapshotTests() {
    }

    static void run() {
        keep();
        goBack();
        anotherInItsPlace();
        undo();
        savedStates();
    }

    private static void keep() {
        SparrowRace r = Races.slowInCorner();
        Check.badArgument("keep -1", r, () -> r.keep(-1));
        Check.badArgument("keep 2", r, () -> r.keep(2));
        int saved = r.savedStates();
        r.pass(6);
        r.keep(0);
        Check.due("keep saves nothing", r.savedStates(), saved + 1);
        String first = Looks.state(r);
        r.pass(6);
        r.keep(1);
        String second = Looks.state(r);
        r.goBack(0);
        Check.due("back to the slot 0", Looks.state(r), first);
        r.goBack(1);
        Check.due("back to the slot 1", Looks.state(r), second);
        r.keep(0);
        r.begin();
        r.goBack(0);
        Check.due("in place of the one before", Looks.state(r), second);
    }

    private static void goBack() {
        SparrowRace r = Races.with(20, 500, 0);
        Check.badArgument("goBack -1", r, () -> r.goBack(-1));
        Check.badArgument("goBack 2", r, () -> r.goBack(2));
        Check.badState("goBack to nothing", r, () -> r.goBack(1));
        r.setLaps(5);
        r.setLimit(1, 9);
        r.keep(1);
        Check.badState("goBack to the other one", r, () -> r.goBack(0));
        String kept = Looks.state(r);
        r.enter(30, 300, 1);
        r.pair(0, 1);
        r.setLaps(1);
        r.setLimit(1, 33);
        r.begin();
        r.pass(200);
        Races.type(r, "n0;x");
        Check.undoable("goBack", r, () -> r.goBack(1));
        Check.due("all as it was", Looks.state(r), kept);
        Check.due("the buffer stays", r.clearBuffer(), 4);
        Check.due("the laps as they were", r.setLaps(2), 5);
        r.goBack(1);
        Check.due("the snapshot stays", Looks.state(r), kept);
        Check.due("races and wins as they were", r.races() + " " + r.winsInPairs(), "0 0");
        Check.due("it enters as before", r.enter(10, 100, 0), 1);
        r.begin();
        Check.due("with its own strength", r.strengthOf(1), 100);
        Check.badState("and no partner", r, () -> r.partnerOf(1));
    }

    private static void anotherInItsPlace() {
        SparrowRace r = Races.with(20, 500, 0);
        r.keep(0);
        r.undo();
        r.enter(30, 100, 1);
        r.goBack(0);
        r.begin();
        Check.due("the kept one starts", r.strengthOf(0) + " " + r.laneOf(0) + " " + r.paceOf(0), "500 0 20");
        r.undo();
        r.undo();
        r.begin();
        Check.due("the other one starts", r.strengthOf(0) + " " + r.laneOf(0) + " " + r.paceOf(0), "100 1 30");
    }

    private static String inShort(SparrowRace r) {
        return r.flown(0) + " " + r.strengthOf(0) + " " + r.wearOf(0) + " " + r.seconds() + " " + r.flownByAccount();
    }

    private static void undo() {
        SparrowRace r = new SparrowRace();
        Check.badState("undo nothing", r, r::undo);
        String[] looks = new String[10];
        r.enter(20, 999, 0);
        r.begin();
        for (int i = 0; i < 8; i++) {
            looks[i] = inShort(r);
            r.pass(1 + i);
        }
        Races.type(r, "n0");
        for (int i = 7; i > 1; i--) {
            r.undo();
            Check.due("undo to " + i, inShort(r), looks[i]);
            Check.due("savedStates", r.savedStates(), i - 2);
        }
        Check.badState("undo a seventh", r, r::undo);
        Check.due("the buffer stays", r.clearBuffer(), 2);
        SparrowRace twice = Races.begun(20, 500, 0);
        twice.keep(0);
        twice.undo();
        Check.due("the slot stays", twice.isRacing(), false);
        twice.goBack(0);
        Check.due("and is gone back to", twice.isRacing(), true);
    }

    private static void savedStates() {
        SparrowRace r = Races.with(20, 500, 0);
        for (int i = 2; i <= 9; i++) {
            r.setPace(0, 20);
            Check.due("savedStates after " + i, r.savedStates(), Math.min(i, 6));
        }
        r.undo();
        Check.due("savedStates after undo", r.savedStates(), 5);
        r.keep(0);
        r.flown(0);
        r.append('n');
        r.firstError();
        r.clearBuffer();
        Check.due("what is not undoable saves nothing", r.savedStates(), 5);
    }
}
