/** Promises 41 to 54. */
final class AccountTests {
    private AccountTests() {
    }

    static void run() {
        isRacing();
        arrivals();
        feetAndMean();
        counts();
        wins();
        digest();
    }

    private static void isRacing() {
        SparrowRace r = Races.with(20, 500, 0);
        Check.due("not begun", r.isRacing(), false);
        r.begin();
        Check.due("begun", r.isRacing(), true);
        Check.due("seconds at first", r.seconds(), 0);
        r.pass(7);
        Check.due("seconds", r.seconds(), 7);
        SparrowRace over = Races.over();
        Check.due("over", over.isRacing(), false);
        Check.due("seconds then", over.seconds(), 21);
        over.enter(20, 500, 1);
        Check.due("over, though one came", over.isRacing(), false);
    }

    private static void arrivals() {
        SparrowRace r = Races.with(20, 999, 0, 40, 999, 1);
        r.setLaps(1);
        Check.noBird("arrivedAt 0 without a race", r, () -> r.arrivedAt(0));
        r.begin();
        Check.badState("timeOf none yet", r, () -> r.timeOf(0));
        r.pass(20);
        int time = r.timeOf(1);
        Check.due("arrived", r.arrived(), 1);
        Check.due("arrivedAt 0", r.arrivedAt(0), 1);
        Check.noBird("arrivedAt 1", r, () -> r.arrivedAt(1));
        Check.noBird("arrivedAt -1", r, () -> r.arrivedAt(-1));
        Check.badState("timeOf one that flies", r, () -> r.timeOf(0));
        r.pass(200);
        Check.due("arrived all", r.arrived(), 2);
        Check.due("arrivedAt 1 then", r.arrivedAt(1), 0);
        Check.due("timeOf", r.timeOf(0), 21);
        Check.due("the other's time stays", r.timeOf(1), time);
        r.begin();
        Check.noBird("arrivedAt 0 of the next race", r, () -> r.arrivedAt(0));
    }

    private static void feetAndMean() {
        Check.due("mean without any", new SparrowRace().meanFlown(), 0.0);
        SparrowRace r = Races.begun(20, 999, 0, 35, 999, 1, 20, 999, 1);
        Check.due("mean at the start", r.meanFlown(), 0.0);
        r.pass(1);
        Check.due("flown", r.flown(0) + " " + r.flown(1) + " " + r.flown(2), "20 35 20");
        Check.due("flownByBirds", r.flownByBirds(), 75);
        Check.due("flownByAccount", r.flownByAccount(), 75);
        Check.due("meanFlown", r.meanFlown(), 25.0);
        r.pass(1);
        Check.due("meanFlown is no integer", r.meanFlown(), r.flownByBirds() / 3.0);
        r.pass(200);
        Check.due("all by sparrows", r.flownByBirds(), 2400);
        Check.due("all by account", r.flownByAccount(), 2400);
        r.enter(10, 100, 0);
        Check.due("one that came after", r.flownByBirds() + " " + r.flownByAccount() + " " + r.meanFlown(),
            "2400 2400 600.0");
    }

    private static void counts() {
        SparrowRace r = Races.slowInCorner();
        r.callIn(1);
        r.pass(9);
        Check.due("drafts", r.drafts(), 4);
        Check.due("changes", r.changes(), 1);
        Check.due("rests", r.rests(), 0);
        Check.due("races", r.races(), 1);
        r.pass(40);
        Check.due("rests then", r.rests(), 1);
        r.begin();
        Check.due("in the next race", r.drafts() + " " + r.changes() + " " + r.rests() + " " + r.races(), "0 0 0 2");
    }

    private static void wins() {
        SparrowRace r = Races.with(20, 500, 0, 40, 999, 1, 10, 500, 0);
        r.setLaps(1);
        r.pair(0, 2);
        r.begin();
        r.pass(200);
        Check.due("the winner had no partner", r.arrivedAt(0) + " " + r.winsInPairs(), "1 0");
        r.pair(1, 2);
        Check.due("a pair after the race is too late", r.winsInPairs(), 0);
        r.begin();
        r.pass(200);
        Check.due("a win in a pair", r.winsInPairs(), 1);
        r.begin();
        r.pass(1);
        r.pair(0, 2);
        r.pass(200);
        Check.due("its partner was gone", r.winsInPairs(), 1);
        r.pair(0, 1);
        r.begin();
        Check.due("wins stay", r.winsInPairs(), 1);
        r.pass(200);
        Check.due("another win in a pair", r.winsInPairs() + " " + r.races(), "2 4");
    }

    /** All eight fly two races; PlainRace reckons its digest from its own answers. */
    private static void digest() {
        SparrowRace r = new SparrowRace();
        PlainRace p = new PlainRace();
        Check.due("digest of a new one", r.digest(), p.digest());
        for (int i = 0; i < 8; i++) {
            r.append(40 + i);
            p.append(40 + i);
            r.enter(13 + 3 * i, 150 + 100 * i, i % 2);
            p.enter(13 + 3 * i, 150 + 100 * i, i % 2);
            Check.due("digest with " + r.sparrows(), r.digest(), p.digest());
            r.keep(i > 2 ? 1 : 0);
            p.keep(i > 2 ? 1 : 0);
        }
        r.pair(2, 6);
        p.pair(2, 6);
        for (int race = 0; race < 2; race++) {
            r.begin();
            p.begin();
            r.callIn(3);
            p.callIn(3);
            while (r.isRacing() && p.isRacing()) {
                r.pass(5);
                p.pass(5);
                Check.due("digest at " + r.seconds(), r.digest(), p.digest());
            }
        }
        Check.due("digest twice", r.digest(), r.digest());
    }
}
