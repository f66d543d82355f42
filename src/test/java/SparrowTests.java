/** Promises 1 to 5. */
final class SparrowTests {
    private SparrowTests() {
    }

    static void run() {
        newObject();
        enter();
        enterRefused();
        setPace();
        callIn();
        pair();
        pairRefused();
    }

    private static void newObject() {
        SparrowRace r = new SparrowRace();
        Check.due("new sparrows", r.sparrows(), 0);
        Check.due("new savedStates", r.savedStates(), 0);
        Check.due("new isRacing", r.isRacing(), false);
        Check.due("new seconds", r.seconds(), 0);
        Check.due("new races", r.races(), 0);
        Check.due("new meanFlown", r.meanFlown(), 0.0);
        Check.due("new clearBuffer", r.clearBuffer(), 0);
        for (int corner = 0; corner < 4; corner++) {
            Check.due("new limitOf " + corner, r.limitOf(corner), 20);
        }
        Check.badState("new goBack 0", r, () -> r.goBack(0));
        Check.badState("new goBack 1", r, () -> r.goBack(1));
        Check.badState("new undo", r, r::undo);
        Check.due("new laps", r.setLaps(3), 2);
    }

    private static void enter() {
        SparrowRace r = new SparrowRace();
        Check.due("enter the first", r.enter(10, 100, 0), 0);
        Check.due("enter the second", r.enter(40, 999, 1), 1);
        Check.due("sparrows", r.sparrows(), 2);
        int[] got = {r.paceOf(1), r.strengthOf(1), r.laneOf(1), r.stateOf(1), r.flown(1), r.wearOf(1), r.speedOf(1)};
        Check.due("enter 1 as it is", java.util.Arrays.toString(got), "[40, 999, 1, 0, 0, 0, 0]");
        Check.undoable("enter", r, () -> r.enter(11, 111, 1));
        r.undo();
        r.undo();
        Check.due("enter after undo takes the number again", r.enter(33, 333, 0), 1);
        Check.due("its pace", r.paceOf(1), 33);
        SparrowRace over = Races.over();
        Check.due("enter after a race", over.enter(30, 300, 1), 1);
        Check.due("the race stays over", over.isRacing(), false);
        Check.due("it waits", over.stateOf(1), 0);
        Check.due("the other has arrived", over.stateOf(0), 3);
    }

    private static void enterRefused() {
        SparrowRace r = new SparrowRace();
        int[][] wrong = {{9, 100, 0}, {41, 100, 0}, {10, 99, 0}, {10, 1000, 0}, {10, 100, -1}, {10, 100, 2},
            {Integer.MIN_VALUE, 100, 0}, {10, Integer.MAX_VALUE, 0}};
        for (int[] w : wrong) {
            Check.badArgument("enter " + java.util.Arrays.toString(w), r, () -> r.enter(w[0], w[1], w[2]));
        }
        for (int i = 0; i < 8; i++) {
            Check.due("enter number " + i, r.enter(20, 500, i % 2), i);
        }
        Check.badState("enter a ninth", r, () -> r.enter(20, 500, 0));
        Check.badArgument("enter a ninth, wrong", r, () -> r.enter(9, 500, 0));
        SparrowRace racing = Races.begun(20, 500, 0);
        Check.badState("enter in a race", racing, () -> racing.enter(20, 500, 0));
        Check.badArgument("enter in a race, wrong", racing, () -> racing.enter(20, 500, 2));
    }

    private static void setPace() {
        SparrowRace r = Races.with(20, 500, 0, 30, 500, 1);
        Check.due("setPace", r.setPace(1, 40), 30);
        Check.due("setPace again", r.setPace(1, 10), 40);
        Check.due("paceOf", r.paceOf(1), 10);
        Check.due("paceOf the other", r.paceOf(0), 20);
        Check.undoable("setPace", r, () -> r.setPace(0, 25));
        Check.undoable("setPace to the same", r, () -> r.setPace(0, 25));
        Check.noBird("setPace 2", r, () -> r.setPace(2, 20));
        Check.noBird("setPace -1, wrong", r, () -> r.setPace(-1, 9));
        Check.badArgument("setPace 9", r, () -> r.setPace(0, 9));
        Check.badArgument("setPace 41", r, () -> r.setPace(0, 41));
        r.begin();
        r.setPace(0, 12);
        r.pass(1);
        Check.due("flown with the new pace", r.flown(0), 12);
        SparrowRace over = Races.over();
        Check.due("setPace of one that has arrived", over.setPace(0, 33), 20);
        over.begin();
        Check.due("the pace stays in the next race", over.paceOf(0), 33);
    }

    private static void callIn() {
        SparrowRace r = Races.with(20, 500, 0, 20, 500, 1);
        Check.due("callIn ahead of the race", r.callIn(0), true);
        Check.due("callIn again", r.callIn(0), false);
        r.callIn(0);
        r.begin();
        Check.due("begin calls none in", r.isCalledIn(0), false);
        Check.undoable("callIn", r, () -> r.callIn(0));
        r.pass(22);
        Check.due("it rests", r.stateOf(0), 2);
        Check.due("it is called in no longer", r.isCalledIn(0), false);
        Check.due("callIn of one that rests", r.callIn(0), true);
        Check.due("the other one is not", r.isCalledIn(1), false);
        Check.noBird("callIn 2", r, () -> r.callIn(2));
        Check.noBird("callIn -1", r, () -> r.callIn(-1));
        SparrowRace over = Races.over();
        Check.badState("callIn of one that has arrived", over, () -> over.callIn(0));
    }

    private static void pair() {
        SparrowRace r = Races.with(20, 500, 0, 20, 500, 1, 20, 500, 0, 20, 500, 1);
        Check.due("pair 0 1", r.pair(0, 1), 1);
        Check.due("pair 2 3", r.pair(2, 3), 2);
        Check.due("pair 1 0 again", r.pair(1, 0), 2);
        Check.due("partnerOf 0", r.partnerOf(0), 1);
        Check.due("partnerOf 1", r.partnerOf(1), 0);
        Check.undoable("pair across", r, () -> r.pair(1, 2));
        Check.due("partnerOf 2", r.partnerOf(2), 1);
        Check.badState("partnerOf 0 then", r, () -> r.partnerOf(0));
        Check.badState("partnerOf 3 then", r, () -> r.partnerOf(3));
        Check.due("pair the others", r.pair(3, 0), 2);
        r.begin();
        Check.due("pairs stay in a race", r.partnerOf(0), 3);
    }

    private static void pairRefused() {
        SparrowRace r = Races.with(20, 500, 0, 20, 500, 1);
        Check.noBird("pair 0 2", r, () -> r.pair(0, 2));
        Check.noBird("pair 2 0", r, () -> r.pair(2, 0));
        Check.noBird("pair 0 -1", r, () -> r.pair(0, -1));
        Check.noBird("pair 2 2", r, () -> r.pair(2, 2));
        Check.badArgument("pair 1 1", r, () -> r.pair(1, 1));
    }
}
