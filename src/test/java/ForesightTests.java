/** Promises 36 to 40: what would be, with nothing changed. */
final class ForesightTests {
    private ForesightTests() {
    }

    static void run() {
        nothingIsChanged();
        wouldFly();
        wouldWin();
        secondsToNext();
        flownWithPace();
        bestPace();
    }

    private static void nothingIsChanged() {
        SparrowRace r = Races.slowInCorner();
        r.pass(6);
        String before = Looks.whole(r);
        r.wouldFly(0, 200);
        r.wouldWin();
        r.secondsToNext();
        r.flownWithPace(1, 40);
        r.bestPace(1);
        r.digest();
        Check.due("what would be changes nothing", Looks.whole(r), before);
    }

    private static void wouldFly() {
        SparrowRace r = Races.with(20, 999, 0, 30, 500, 1);
        Check.badState("wouldFly without a race", r, () -> r.wouldFly(0, 1));
        r.begin();
        Check.noBird("wouldFly of none, wrong", r, () -> r.wouldFly(2, 0));
        Check.noBird("wouldFly of -1", r, () -> r.wouldFly(-1, 1));
        Check.badArgument("wouldFly 0", r, () -> r.wouldFly(0, 0));
        Check.badArgument("wouldFly 201", r, () -> r.wouldFly(0, 201));
        Check.due("wouldFly 11", r.wouldFly(0, 11), 219);
        Check.due("wouldFly 200", r.wouldFly(0, 200), 800);
        int then = r.wouldFly(1, 17);
        r.pass(17);
        Check.due("as it was told", r.flown(1), then);
        SparrowRace over = Races.over();
        Check.badArgument("wouldFly after a race, wrong", over, () -> over.wouldFly(0, 0));
        Check.badState("wouldFly after a race", over, () -> over.wouldFly(0, 1));
    }

    private static void wouldWin() {
        SparrowRace r = Races.with(10, 999, 0, 20, 999, 1);
        Check.badState("wouldWin without a race", r, r::wouldWin);
        r.setLaps(1);
        r.begin();
        Check.due("wouldWin", r.wouldWin(), 1);
        r.pass(21);
        Check.due("as it was told", r.arrivedAt(0), 1);
        Check.badState("wouldWin when one has arrived", r, r::wouldWin);
        SparrowRace same = Races.begun(20, 999, 1, 20, 999, 0);
        Check.due("of several the one ahead", same.wouldWin(), 0);
        SparrowRace over = Races.over();
        Check.badState("wouldWin after a race", over, over::wouldWin);
    }

    private static void secondsToNext() {
        SparrowRace r = Races.with(10, 999, 0, 20, 500, 1);
        Check.badState("secondsToNext without a race", r, r::secondsToNext);
        r.setLaps(1);
        r.begin();
        Check.due("secondsToNext", r.secondsToNext(), 21);
        r.pass(20);
        Check.due("secondsToNext 1", r.secondsToNext(), 1);
        r.pass(1);
        Check.due("to the next one", r.secondsToNext(), 19);
        Check.due("which it is", r.pass(18) + " " + r.pass(1), "0 1");
        Check.badState("secondsToNext after a race", r, r::secondsToNext);
        SparrowRace far = Races.with(10, 100, 0);
        far.setLaps(9);
        far.begin();
        // 33 seconds of 10 feet, and then 4 feet each, for want of strength.
        Check.due("far", far.secondsToNext(), 33 + (3600 - 330 + 3) / 4);
        SparrowRace rests = Races.begun(20, 500, 0);
        int without = rests.secondsToNext();
        rests.callIn(0);
        Check.due("a rest is reckoned with", rests.secondsToNext() != without, true);
    }

    private static void flownWithPace() {
        SparrowRace r = Races.with(20, 100, 0);
        Check.badState("flownWithPace without a race", r, () -> r.flownWithPace(0, 20));
        Check.badArgument("flownWithPace without a race, wrong", r, () -> r.flownWithPace(0, 41));
        Check.noBird("flownWithPace of none, wrong", r, () -> r.flownWithPace(1, 9));
        r.begin();
        Check.badArgument("flownWithPace 9", r, () -> r.flownWithPace(0, 9));
        Check.badArgument("flownWithPace 41", r, () -> r.flownWithPace(0, 41));
        Check.due("flownWithPace 10", r.flownWithPace(0, 10), 330 + 17 * 4);
        Check.due("flownWithPace 11", r.flownWithPace(0, 11), 275 + 25 * 4);
        Check.due("flownWithPace 12", r.flownWithPace(0, 12), 300 + 25 * 4);
        Check.due("its pace stays", r.paceOf(0), 20);
        Check.due("with its own one", r.flownWithPace(0, 20), r.wouldFly(0, 50));
        SparrowRace over = Races.over();
        Check.badState("flownWithPace after a race", over, () -> over.flownWithPace(0, 20));
    }

    private static void bestPace() {
        SparrowRace r = Races.with(20, 100, 0, 20, 999, 1);
        Check.badState("bestPace without a race", r, () -> r.bestPace(0));
        Check.noBird("bestPace of none", r, () -> r.bestPace(2));
        r.begin();
        Check.noBird("bestPace of -1", r, () -> r.bestPace(-1));
        Check.due("14 flies as far as 12", r.flownWithPace(0, 14), r.flownWithPace(0, 12));
        Check.due("bestPace", r.bestPace(0), 12);
        int best = r.bestPace(1);
        for (int pace = 10; pace <= 40; pace++) {
            boolean fits = pace < best ? r.flownWithPace(1, pace) < r.flownWithPace(1, best)
                : r.flownWithPace(1, pace) <= r.flownWithPace(1, best);
            Check.due("bestPace against " + pace, fits, true);
        }
        SparrowRace most = Races.with(30, 951, 0);
        Races.type(most, "c0=14;c1=16;c2=13;c3=11");
        most.follow();
        most.setLaps(9);
        most.begin();
        most.callIn(0);
        Check.due("no pace is too much for one that rests soon", most.bestPace(0), 40);
        SparrowRace one = Races.with(40, 999, 0, 40, 999, 1);
        one.setLaps(1);
        one.begin();
        Check.due("the least of all that arrive", one.bestPace(0), 10);
        SparrowRace over = Races.over();
        Check.badState("bestPace after a race", over, () -> over.bestPace(0));
    }
}
