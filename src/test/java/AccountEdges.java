/** The boundary sentences of the promises 41 to 54, each with a row of its own. */
final class AccountEdges {
    private static final String ONE = "enter(20,500,0)";
    private static final String WIDE = "setLimit(0,40) setLimit(1,40) setLimit(2,40) setLimit(3,40)";
    private static final String TWO_ARRIVE = "enter(20,999,0) enter(10,999,1) setLaps(1) begin() ";

    private AccountEdges() {
    }

    static void run() {
        isRacing();
        seconds();
        arrived();
        arrivedAt();
        timeOf();
        flownTwice();
        drafts();
        changes();
        rests();
        races();
        winsFirstAlone();
        winsWhenTheyArrive();
        winsOfAllRaces();
        meanFlown();
        digestOfNewOne();
        digestWhereItThrows();
        digestOfEachValue();
        digestOfOneThatRests();
        digestOfOneThatHasArrived();
    }

    private static void isRacing() {
        Edge.due("P41 begun", ONE, "isRacing()=false begin() isRacing()=true pass(1) isRacing()=true");
        Edge.due("P41 not all have arrived since", TWO_ARRIVE, "pass(21)=1 isRacing()=true pass(18)=0 isRacing()=true pass(1)=1 isRacing()=false");
        Edge.due("P41 over until begin, also if a sparrow comes", TWO_ARRIVE, "pass(40) enter(20,500,0) isRacing()=false setLaps(9) isRacing()=false",
            "begin() isRacing()=true");
        Edge.due("P41 while all rest", ONE, "begin() callIn(0) pass(21) stateOf(0)=2 isRacing()=true");
    }

    private static void seconds() {
        Edge.due("P42 so far", ONE, "seconds()=0 begin() seconds()=0 pass(1) seconds()=1 pass(19) seconds()=20 begin() seconds()=0");
        Edge.due("P42 no more when all have arrived", ONE, "setLaps(1) begin() pass(200) seconds()=21 enter(20,500,0) seconds()=21");
        Edge.due("P42 while one rests", ONE, "begin() callIn(0) pass(30) stateOf(0)=2 seconds()=30");
    }

    private static void arrived() {
        Edge.due("P43 none, one, all", "arrived()=0", TWO_ARRIVE, "arrived()=0 pass(20) arrived()=0 pass(1) arrived()=1 pass(19) arrived()=2",
            "begin() arrived()=0");
        Edge.due("P43 all eight", "enter(20,500,0)*8 setLaps(1) begin() pass(200) arrived()=8 arrivedAt(8)=IOOBE enter(20,500,0)=ISE");
    }

    private static void arrivedAt() {
        Edge.due("P44 not so many", TWO_ARRIVE, "arrivedAt(0)=IOOBE pass(21) arrivedAt(0)=0 arrivedAt(1)=IOOBE pass(19) arrivedAt(1)=1",
            "arrivedAt(2)=IOOBE arrivedAt(2147483647)=IOOBE");
        Edge.due("P44 below 0", TWO_ARRIVE, "arrivedAt(-1)=IOOBE pass(40) arrivedAt(-1)=IOOBE arrivedAt(-2147483648)=IOOBE");
        Edge.due("P44 none in the next race", TWO_ARRIVE, "pass(40) arrivedAt(0)=0 begin() arrivedAt(0)=IOOBE undo() arrivedAt(0)=0");
        Edge.due("P44 a sparrow that came is none of them", TWO_ARRIVE, "pass(40) enter(20,500,0) arrivedAt(1)=1 arrivedAt(2)=IOOBE");
    }

    private static void timeOf() {
        Edge.due("P45 not arrived", TWO_ARRIVE, "timeOf(0)=ISE pass(20) timeOf(0)=ISE pass(1) timeOf(0)=21 timeOf(1)=ISE timeOf(2)=IOOBE",
            "pass(19) timeOf(1)=40 timeOf(0)=21 begin() timeOf(0)=ISE timeOf(1)=ISE");
        Edge.due("P45 it waits", ONE, "timeOf(0)=ISE timeOf(1)=IOOBE timeOf(-1)=IOOBE");
        Edge.due("P45 it rests", ONE, "begin() callIn(0) pass(21) timeOf(0)=ISE");
        Edge.due("P45 in the first second that can be", "enter(40,999,0) setLaps(1)", WIDE, "begin() pass(200) timeOf(0)=10");
    }

    private static void flownTwice() {
        Edge.due("P46, P47 none", "flownByBirds()=0 flownByAccount()=0 enter(20,500,0) flownByBirds()=0 flownByAccount()=0");
        Edge.due("P46, P47 at the ends of laps", TWO_ARRIVE, "callIn(1) pass(20) flownByBirds()=590 flownByAccount()=590 pass(1) flownByBirds()=610",
            "flownByAccount()=610 pass(19) flownByBirds()=800 flownByAccount()=800 begin() flownByBirds()=0 flownByAccount()=0");
        Edge.due("P46, P47 in the nest", ONE, "begin() callIn(0) pass(21) flownByBirds()=400 flownByAccount()=400 pass(12) flownByAccount()=400");
        Edge.due("P46, P47 with one that came", TWO_ARRIVE, "pass(40) enter(20,500,0) flownByBirds()=800 flownByAccount()=800");
    }

    /** Sparrow 0 flies 40, 80, 84, 88 feet and so on, 1 comes to 8 feet behind it in the second 4. */
    private static String slow() {
        return "enter(40,100,0) enter(20,999,0) setLimit(0,40) begin() ";
    }

    private static void drafts() {
        Edge.due("P48 each second in a draft", slow(), "drafts()=0 pass(4) isDrafting(1)=true drafts()=0 pass(1) drafts()=0 gapAhead(1)=1",
            "pass(1) drafts()=1 pass(1) drafts()=2 pass(1) drafts()=3 pass(1) drafts()=4 changes()=1 pass(1) drafts()=4");
        Edge.due("P48 in the race alone", slow(), "pass(9) drafts()=4 begin() drafts()=0 undo() drafts()=4");
        Edge.due("P48 of sparrows together", "enter(20,100,0) enter(10,101,0) setLimit(1,40) begin() pass(14) setPace(1,32) pass(2) drafts()=0",
            "pass(1) drafts()=1");
        Edge.due("P48 looking counts nothing", slow(), "pass(5) wouldFly(1,200) bestPace(1) wouldWin() isDrafting(1) drafts()=0");
    }

    private static void changes() {
        Edge.due("P49 each change", "enter(10,999,0) enter(20,999,0) enter(30,999,1) begin() changes()=0 pass(1) changes()=0 pass(1) changes()=1",
            "begin() changes()=0");
        Edge.due("P49 two in a second", "enter(10,999,0) enter(20,999,0) enter(40,999,0) begin() pass(1) laneOf(1)=1 changes()=2 laneOf(2)=1");
    }

    private static void rests() {
        Edge.due("P50 each rest", "enter(20,999,0) setLaps(3) begin() callIn(0) rests()=0 pass(20) rests()=0 pass(1) rests()=1 pass(12) rests()=1",
            "callIn(0) pass(21) rests()=2 begin() rests()=0");
        Edge.due("P50 not at the end of the race", "enter(20,999,0) setLaps(1) begin() callIn(0) pass(21) stateOf(0)=3 rests()=0");
    }

    private static void races() {
        Edge.due("P51 begun so far", "races()=0 begin()=ISE races()=0", ONE, "races()=0 begin() races()=1 begin() races()=2 pass(200) races()=2",
            "begin() races()=3 undo() races()=2 undo()*2 races()=1");
    }

    private static void winsFirstAlone() {
        Edge.due("P52 the first one alone", TWO_ARRIVE, "pair(0,1) pass(20) winsInPairs()=0 pass(1) winsInPairs()=1 pass(19) winsInPairs()=1");
        Edge.due("P52 the second one's pair is none", "enter(20,999,0) enter(10,999,1) enter(10,500,0) setLaps(1) pair(1,2) begin() pass(200)",
            "arrived()=3 arrivedAt(0)=0 winsInPairs()=0");
        Edge.due("P52 both of a pair in one second", "enter(20,999,0) enter(20,999,1) setLaps(1) pair(0,1) begin() pass(21)=2 winsInPairs()=1");
    }

    private static void winsWhenTheyArrive() {
        Edge.due("P52 a partner in the last second", TWO_ARRIVE, "pass(20) pair(0,1) pass(1)=1 winsInPairs()=1");
        Edge.due("P52 a partner too late", TWO_ARRIVE, "pass(21)=1 pair(0,1) winsInPairs()=0 pass(19)=1 winsInPairs()=0");
        Edge.due("P52 a partner that is gone", "enter(20,999,0) enter(10,999,1) enter(10,500,0) setLaps(1) pair(0,1) begin() pass(20) pair(1,2)",
            "partnerOf(0)=ISE pass(1)=1 winsInPairs()=0");
        Edge.due("P52 a partner that goes behind it", "enter(20,999,0) enter(10,999,1) enter(10,500,0) setLaps(1) pair(0,1) begin() pass(21)",
            "winsInPairs()=1 pair(1,2) winsInPairs()=1");
    }

    private static void winsOfAllRaces() {
        Edge.due("P52 so far", TWO_ARRIVE, "pair(0,1) pass(40) winsInPairs()=1 begin() winsInPairs()=1 pass(40) winsInPairs()=2 begin() pass(20)",
            "begin() winsInPairs()=2 races()=4");
    }

    private static void meanFlown() {
        Edge.due("P53 none", "meanFlown()=0.0 enter(20,500,0) meanFlown()=0.0 begin() meanFlown()=0.0 pass(1) meanFlown()=20.0");
        Edge.due("P53 as a double", "enter(20,999,0) enter(11,999,1) begin() pass(1) meanFlown()=15.5");
        Check.due("P53 thirds", Script.run(Script.calls("enter(40,999,0) enter(20,999,0) enter(40,999,1) begin() pass(1)")).meanFlown(),
            100 / 3.0);
        Edge.due("P53 with one that came", "enter(20,500,0) setLaps(1) begin() pass(21) meanFlown()=400.0 enter(20,500,0) meanFlown()=200.0");
        Edge.due("P53 the most", "enter(10,999,0) setLaps(9) begin() pass(200)*2 pass(1)=1 flown(0)=3600 meanFlown()=3600.0");
    }

    private static long hash(long... values) {
        long hash = 4637;
        for (long value : values) {
            hash = 31 * hash + value;
        }
        return hash;
    }

    private static void digestOfNewOne() {
        SparrowRace race = new SparrowRace();
        Check.due("P54 of a new object", race.digest(),
            hash(0, 20, 20, 20, 20, 0, 0, 0, 0, 0, 0, 0, 0, 0, 0, 0, 0, 0, 0, 0, 0, 0, 0));
        race.append('t');
        race.append('~');
        race.keep(1);
        Check.due("P54 the buffer and the slots", race.digest(),
            hash(0, 20, 20, 20, 20, 0, 0, 0, 0, 0, 0, 0, 0, 0, 0, 0, 0, 0, 0, 0, 0, 1, 2, 't', '~'));
    }

    /** One that waits: no partner, no draft, no allowance, no time; no race, so nothing would be. */
    private static void digestWhereItThrows() {
        SparrowRace race = Script.run(Script.calls("enter(33,444,1) callIn(0) setLimit(2,9) keep(0)"));
        Check.due("P54 where it throws", race.digest(), hash(1, 0, 0, 0, 444, 0, 1, 0, 33, 0, 1, 0, 0, 0, 0, 0, 0, 0, 0,
            20, 20, 9, 20, 0, 0, 0, 0, 0, 0, 0, 0, 0, 0, 0, 0, 0, 3, 0, 1, 0, 0));
        SparrowRace over = Script.run(Script.calls("enter(20,500,0) setLaps(1) begin() pass(21)"));
        Check.due("P54 where it throws, behind the race", over.digest(), hash(1, 400, 1, 10, 281, 21, 0, 3, 20, 0, 0, 0, 0, 0,
            0, 0, 21, 0, 0, 20, 20, 20, 20, 0, 0, 0, 0, 21, 1, 0, 400, 400, 0, 0, 0, 1, 0, 4,
            Double.doubleToLongBits(400.0), 0, 0, 0));
    }

    /** Sparrow 2 is in the draft of 0, 8 feet behind it; 1 is ahead of both, outside. */
    private static void digestOfEachValue() {
        SparrowRace race = Script.run(Script.calls("enter(20,100,0) enter(29,999,1) enter(12,999,0) pair(0,1) begin() pass(1)"));
        int best = race.bestPace(0);
        Check.due("P54 the best pace of 0 is its own", best == race.bestPace(1), false);
        Check.due("P54 while the race goes on", race.digest(), hash(3,
            20, 0, 20, 89, 1, 0, 1, 20, 2, 0, 1, 392, 0, 0, 20, 0, race.wouldFly(0, 30),
            29, 0, 29, 977, 1, 1, 1, 29, 1, 0, 0, 0, 0, 0, 29, 0, race.wouldFly(1, 30),
            12, 0, 12, 995, 0, 0, 1, 12, 0, 0, 2, 8, 1, 0, 12, 0, race.wouldFly(2, 30),
            1, 0, 2, 20, 20, 20, 20, race.wouldWin() + 1, race.secondsToNext(), best,
            1, 1, 0, 61, 61, 0, 0, 0, 1, 0, 6, Double.doubleToLongBits(61 / 3.0), 0, 0, 0));
    }

    /** Sparrow 0 rests 7 feet behind 1, which flies in its lane: it is in no draft, and may not fly. */
    private static void digestOfOneThatRests() {
        SparrowRace race = Script.run(Script.calls("enter(20,999,0) enter(13,999,0) begin() callIn(0) pass(15) setPace(1,12)"
            + " pass(16) setPace(1,20) pass(1)"));
        Check.due("P54 one that rests has a best pace", race.bestPace(0) >= 10, true);
        Check.due("P54 one that rests", race.digest(), hash(2,
            400, 1, 0, 999, 0, 0, 2, 20, 0, 0, 1, 7, 0, 0, 0, 0, race.wouldFly(0, 30),
            407, 1, 20, race.strengthOf(1), 1, 0, 1, 20, 0, 0, 0, 0, 0, 0, 20, 0, race.wouldFly(1, 30),
            1, 0, 20, 20, 20, 20, race.wouldWin() + 1, race.secondsToNext(), race.bestPace(0),
            1, 32, 0, 807, 807, 0, 0, 1, 1, 0, 6, Double.doubleToLongBits(403.5), 0, 0, 0));
    }

    /** None would win any more, but the next arrival is still to come. */
    private static void digestOfOneThatHasArrived() {
        SparrowRace race = Script.run(Script.calls(TWO_ARRIVE + "pass(21)"));
        Check.due("P54 one that has arrived", race.digest(), hash(2,
            400, 1, 10, 780, 21, 0, 3, 20, 0, 0, 0, 0, 0, 0, 0, 21, 400,
            210, 0, 10, 936, 0, 1, 1, 10, 0, 0, 1, 0, 0, 2, 10, 0, 400,
            0, 1, 20, 20, 20, 20, 0, 19, 10,
            1, 21, 1, 0, 610, 610, 0, 0, 0, 1, 0, 5, Double.doubleToLongBits(305.0), 0, 0, 0));
    }
}
