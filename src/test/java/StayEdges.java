import java.util.ArrayList;
import java.util.LinkedHashMap;
import java.util.List;
import java.util.Map;

/** Each call changes what the document says of it, and nothing else of the sparrows, the course and the accounts. */
final class StayEdges {
    private static final String[] OF_BIRD = {"flown", "lapsOf", "speedOf", "strengthOf", "wearOf", "laneOf", "stateOf",
        "paceOf", "partnerOf", "isCalledIn", "placeByCounting", "birdByOrder", "gapAhead", "whereIs", "arrivedAt", "timeOf"};
    private static final String[] OF_ALL = {"sparrows", "isRacing", "seconds", "arrived", "flownByBirds", "flownByAccount",
        "drafts", "changes", "rests", "races", "winsInPairs", "meanFlown"};

    private static final String WAITING = "enter(20,500,0) enter(30,600,1) enter(25,999,0) pair(0,2) callIn(1) setPace(1,31)"
        + " setLimit(0,12) setLimit(1,13) setLimit(2,11) setLimit(3,39) setLaps(3)";
    /** Sparrow 0 is slow in the way of 1, which drafts and passes it; 2 comes to its nest in the second 29. */
    private static final String FLYING = "enter(40,100,0) enter(20,999,0) enter(20,999,1) setLimit(0,40) pair(0,1) begin()"
        + " callIn(2) pass(30) callIn(1)";
    private static final String ONE_HAS_ARRIVED = FLYING + " pass(20)";
    private static final String OVER = FLYING + " pass(200) setLimit(1,19) setLimit(2,18) setLimit(3,17)";

    private StayEdges() {
    }

    static void run() {
        theRunsHoldAll();
        enter();
        setPace();
        callIn();
        pair();
        setLimit();
        setLaps();
        texts();
        keep();
        lapsStay();
    }

    private static Map<String, String> looks(SparrowRace race) {
        List<String> calls = new ArrayList<>();
        for (String name : OF_ALL) {
            calls.add(name + "()");
        }
        for (int i = 0; i < 8; i++) {
            for (String name : OF_BIRD) {
                calls.add(name + "(" + i + ")");
            }
            calls.add("limitOf(" + i + ")");
        }
        Map<String, String> looks = new LinkedHashMap<>();
        for (String call : calls) {
            looks.put(call, Script.answer(race, call));
        }
        return looks;
    }

    /** Behind the call the looks that are named answer as told there, and all the others as before. */
    private static void changes(String before, String call, String changed) {
        SparrowRace race = Script.run(Script.calls(before));
        Map<String, String> due = looks(race);
        if (!changed.isEmpty()) {
            for (Script.Step step : Script.steps(changed)) {
                due.put(step.call, step.due);
            }
        }
        for (String step : Script.calls(call)) {
            String answer = Script.answer(race, step);
            Check.due(before + " " + step + " is not refused", answer.matches("IAE|ISE|IOOBE"), false);
        }
        Check.due("what " + call + " leaves behind " + before, looks(race), due);
    }

    /** The runs are of use only if there is something to be left as it is. */
    private static void theRunsHoldAll() {
        Edge.due("in the middle of a race", FLYING, "drafts()=4 changes()=1 rests()=1 stateOf(2)=2 isCalledIn(1)=true");
        Edge.due("one has arrived", ONE_HAS_ARRIVED, "isRacing()=true arrived()=1 arrivedAt(0)=1 isCalledIn(1)=true winsInPairs()=1");
        Edge.due("over", OVER, "isRacing()=false arrived()=3 arrivedAt(0)=1 arrivedAt(1)=2 arrivedAt(2)=0");
    }

    private static void enter() {
        String third = "flown(3)=0 lapsOf(3)=0 speedOf(3)=0 strengthOf(3)=333 wearOf(3)=0 laneOf(3)=1 stateOf(3)=0 paceOf(3)=22"
            + " partnerOf(3)=ISE isCalledIn(3)=false placeByCounting(3)=3 birdByOrder(3)=3 gapAhead(3)=0 whereIs(3)=0"
            + " timeOf(3)=ISE sparrows()=4 ";
        changes(WAITING, "enter(22,333,1)", third);
        changes(OVER, "enter(22,333,1)", third + "meanFlown()=600.0");
    }

    private static void setPace() {
        for (String before : new String[] {WAITING, FLYING, ONE_HAS_ARRIVED, OVER}) {
            for (int bird = 0; bird < 3; bird++) {
                changes(before, "setPace(" + bird + ",33)", "paceOf(" + bird + ")=33");
            }
        }
    }

    private static void callIn() {
        changes(WAITING, "callIn(0)", "isCalledIn(0)=true");
        changes(WAITING, "callIn(1)", "isCalledIn(1)=false");
        changes(FLYING, "callIn(0)", "isCalledIn(0)=true");
        changes(FLYING, "callIn(1)", "isCalledIn(1)=false");
        changes(FLYING, "callIn(2)", "isCalledIn(2)=true");
        changes(ONE_HAS_ARRIVED, "callIn(0)", "isCalledIn(0)=true");
        changes(OVER + " enter(20,500,0)", "callIn(3)", "isCalledIn(3)=true");
    }

    private static void pair() {
        changes(WAITING, "pair(0,1)", "partnerOf(0)=1 partnerOf(1)=0 partnerOf(2)=ISE");
        for (String before : new String[] {FLYING, ONE_HAS_ARRIVED, OVER}) {
            changes(before, "pair(1,2)", "partnerOf(0)=ISE partnerOf(1)=2 partnerOf(2)=1");
            changes(before, "pair(1,0)", "");
        }
    }

    private static void setLimit() {
        for (String before : new String[] {WAITING, FLYING, ONE_HAS_ARRIVED, OVER}) {
            for (int corner = 0; corner < 4; corner++) {
                changes(before, "setLimit(" + corner + ",33)", "limitOf(" + corner + ")=33");
            }
        }
    }

    private static void setLaps() {
        changes(WAITING, "setLaps(1)", "");
        changes(OVER, "setLaps(9)", "");
        changes(OVER, "setLaps(2)", "");
    }

    private static void texts() {
        for (String before : new String[] {WAITING, FLYING, ONE_HAS_ARRIVED, OVER}) {
            changes(before, "append(112) firstError() clearBuffer()", "");
            changes(before, "text(p0=33;c1=9;p0=34) follow()", "paceOf(0)=34 limitOf(1)=9");
        }
    }

    private static void keep() {
        for (String before : new String[] {WAITING, FLYING, ONE_HAS_ARRIVED, OVER}) {
            changes(before, "keep(0) keep(1)", "");
            changes(before, "keep(0) goBack(0)", "");
            changes(before, "setPace(0,33) undo()", "");
        }
    }

    /** The laps have no look of their own; the next setLaps() tells them. */
    private static void lapsStay() {
        String five = "enter(10,999,0) setLaps(5) ";
        Edge.due("the laps stay", five, "enter(20,500,0) setPace(0,12) callIn(0) pair(0,1) setLimit(0,9) keep(0) setLaps(5)=5");
        Edge.due("the laps stay in the race and behind it", "enter(20,500,0) setLaps(1) begin() pass(200) enter(20,500,0) setLaps(3)=1",
            "begin() begin() pass(200) isRacing()=false setLaps(3)=3");
        Edge.due("the laps stay when orders are followed", five, "text(p0=33;n0;c1=9) follow()=3 setLaps(1)=5");
    }
}
