/** The boundary sentences of the promises 1 to 9, each with a row of its own. */
final class CallEdges {
    private static final String ONE = "enter(20,500,0)";
    private static final String TWO = "enter(20,500,0) enter(30,600,1)";
    private static final String EIGHT = "enter(20,500,0)*8";
    private static final String RACING = ONE + " begin()";
    private static final String RESTING = RACING + " callIn(0) pass(21)";
    private static final String OVER = ONE + " setLaps(1) begin() pass(21)";
    private static final String ONE_HAS_ARRIVED = "enter(40,999,1) enter(10,999,0) setLaps(1) begin() pass(20)";

    private CallEdges() {
    }

    static void run() {
        newObject();
        newObjectWithoutSparrows();
        enterRanges();
        enterEight();
        enterWhen();
        enterAfresh();
        setPace();
        setPaceWhen();
        callIn();
        callInWhen();
        pairOfTwo();
        pairsOfEight();
        setLimit();
        setLapsRange();
        setLapsWhen();
        setLapsCount();
        begin();
        beginInPlace();
        beginAllAtStart();
        passRange();
        passWhen();
        passAnswers();
        lastCall();
    }

    private static void newObject() {
        Edge.due("P1 no sparrows, no race", "sparrows()=0 isRacing()=false seconds()=0 arrived()=0 races()=0",
            "flownByBirds()=0 flownByAccount()=0 drafts()=0 changes()=0 rests()=0 winsInPairs()=0 meanFlown()=0.0");
        Edge.due("P1 empty slots", "goBack(0)=ISE goBack(1)=ISE");
        Edge.due("P1 an empty buffer", "firstError()=0 follow()=IAE clearBuffer()=0");
        Edge.due("P1 no saved states", "savedStates()=0 undo()=ISE");
        Edge.due("the corners at first", "limitOf(0)=20 limitOf(1)=20 limitOf(2)=20 limitOf(3)=20");
        Edge.due("the laps at first", "setLaps(2)=2");
        Edge.due("P1 no race", "begin()=ISE pass(1)=ISE wouldWin()=ISE secondsToNext()=ISE");
    }

    private static void newObjectWithoutSparrows() {
        String[] ofBird = {"flown", "lapsOf", "speedOf", "strengthOf", "wearOf", "laneOf", "stateOf", "paceOf",
            "partnerOf", "isCalledIn", "placeByCounting", "birdByOrder", "gapAhead", "isDrafting", "whereIs",
            "allowance", "bestPace", "arrivedAt", "timeOf", "callIn"};
        for (String name : ofBird) {
            Edge.due("P1 without sparrows", name + "(0)=IOOBE");
        }
        Edge.due("P1 without sparrows", "setPace(0,20)=IOOBE pair(0,1)=IOOBE pair(0,0)=IOOBE wouldFly(0,1)=IOOBE",
            "flownWithPace(0,20)=IOOBE");
    }

    private static void enterRanges() {
        Edge.due("P2 pace 10 to 40", "enter(10,500,0)=0 paceOf(0)=10 enter(40,500,0)=1 paceOf(1)=40");
        Edge.due("P2 strength 100 to 999", "enter(20,100,0)=0 strengthOf(0)=100 enter(20,999,0)=1 strengthOf(1)=999");
        Edge.due("P2 lane 0, 1", "enter(20,500,0)=0 laneOf(0)=0 enter(20,500,1)=1 laneOf(1)=1");
        String[] wrong = {"9,500,0", "41,500,0", "-20,500,0", "-2147483648,500,0", "2147483647,500,0", "20,99,0",
            "20,1000,0", "20,-500,0", "20,-2147483648,0", "20,2147483647,0", "20,500,-1", "20,500,2",
            "20,500,-2147483648", "20,500,2147483647", "9,99,-1", "0,0,0"};
        for (String w : wrong) {
            Edge.due("P2 out of range", ONE + " enter(" + w + ")=IAE sparrows()=1 savedStates()=1");
        }
    }

    private static void enterEight() {
        StringBuilder eight = new StringBuilder();
        for (int i = 0; i < 8; i++) {
            eight.append("enter(20,500,").append(i % 2).append(")=").append(i).append(" sparrows()=").append(i + 1)
                .append(' ');
        }
        Edge.due("P2 the ninth", eight.toString(), "enter(20,500,0)=ISE sparrows()=8");
        Edge.due("P2 the ninth, out of range", EIGHT + " enter(9,500,0)=IAE enter(20,99,0)=IAE enter(20,500,2)=IAE");
        Edge.due("P2 the eighth again", EIGHT + " undo() enter(30,300,1)=7 paceOf(7)=30 enter(30,300,1)=ISE");
    }

    private static void enterWhen() {
        Edge.due("P2 while the race goes on", RACING + " enter(20,500,0)=ISE enter(41,500,0)=IAE");
        Edge.due("P2 eight and a race", EIGHT + " begin() enter(20,500,0)=ISE enter(20,500,-1)=IAE");
        Edge.due("P2 while one of two flies", ONE_HAS_ARRIVED + " arrived()=1 enter(20,500,0)=ISE");
        Edge.due("P2 when the race is over", OVER + " enter(30,600,1)=1 stateOf(1)=0 flown(1)=0 isRacing()=false");
        Edge.due("P2 in the second of the last arrival", ONE, "setLaps(1) begin() pass(20) enter(20,500,0)=ISE",
            "pass(1)=1 enter(20,500,0)=1");
        Edge.due("P2 behind undo of begin", RACING + " undo() enter(20,500,1)=1");
    }

    private static void enterAfresh() {
        Edge.due("P2 in place of one that was undone", TWO, "pair(0,1) callIn(1) undo()*3 enter(11,111,0)=1",
            "partnerOf(1)=ISE partnerOf(0)=ISE isCalledIn(1)=false paceOf(1)=11 strengthOf(1)=111 laneOf(1)=0");
        Edge.due("P2 in place of one behind a snapshot", ONE, "keep(0) enter(30,600,1) pair(0,1) begin() pass(5)",
            "callIn(1) goBack(0) enter(11,111,0)=1 flown(1)=0 speedOf(1)=0 wearOf(1)=0 strengthOf(1)=111",
            "laneOf(1)=0 stateOf(1)=0 isCalledIn(1)=false partnerOf(1)=ISE partnerOf(0)=ISE timeOf(1)=ISE");
        Edge.due("P2 as it comes", "enter(33,333,1)=0 flown(0)=0 lapsOf(0)=0 speedOf(0)=0 wearOf(0)=0 stateOf(0)=0",
            "partnerOf(0)=ISE isCalledIn(0)=false placeByCounting(0)=0 gapAhead(0)=0 whereIs(0)=0 timeOf(0)=ISE");
    }

    private static void setPace() {
        Edge.due("P3 pace 10 to 40", ONE, "setPace(0,10)=20 paceOf(0)=10 setPace(0,40)=10 paceOf(0)=40",
            "setPace(0,9)=IAE setPace(0,41)=IAE setPace(0,-1)=IAE setPace(0,-2147483648)=IAE",
            "setPace(0,2147483647)=IAE paceOf(0)=40");
        Edge.due("P3 no such sparrow", ONE, "setPace(-1,20)=IOOBE setPace(1,20)=IOOBE setPace(8,20)=IOOBE",
            "setPace(-2147483648,20)=IOOBE setPace(2147483647,20)=IOOBE");
        Edge.due("P3 the last of eight", EIGHT, "setPace(7,21)=20 setPace(8,21)=IOOBE");
        Edge.due("P3 no such sparrow ahead of out of range", ONE, "setPace(1,9)=IOOBE setPace(-1,41)=IOOBE");
        Edge.due("P3 also if it changes nothing", ONE, "setPace(0,20)=20 savedStates()=2");
    }

    private static void setPaceWhen() {
        Edge.due("P3 one that flies", RACING, "setPace(0,33)=20 speedOf(0)=0 pass(1)=0 flown(0)=33");
        Edge.due("P3 one that rests", RESTING, "stateOf(0)=2 setPace(0,33)=20 paceOf(0)=33");
        Edge.due("P3 one that has arrived", OVER, "stateOf(0)=3 setPace(0,33)=20 paceOf(0)=33 begin()=1 paceOf(0)=33");
    }

    private static void callIn() {
        Edge.due("P4 or no longer", ONE, "isCalledIn(0)=false callIn(0)=true isCalledIn(0)=true callIn(0)=false",
            "isCalledIn(0)=false callIn(0)=true");
        Edge.due("P4 no such sparrow", ONE, "callIn(-1)=IOOBE callIn(1)=IOOBE callIn(-2147483648)=IOOBE",
            "callIn(2147483647)=IOOBE");
        Edge.due("P4 the last of eight", EIGHT, "callIn(7)=true callIn(8)=IOOBE isCalledIn(6)=false");
    }

    private static void callInWhen() {
        Edge.due("P4 one that has arrived", OVER, "callIn(0)=ISE callIn(1)=IOOBE");
        Edge.due("P4 one that has arrived while another flies", ONE_HAS_ARRIVED, "callIn(0)=ISE callIn(1)=true");
        Edge.due("P4 in the second ahead of its arrival", ONE, "setLaps(1) begin() pass(20) callIn(0)=true pass(1)=1",
            "isCalledIn(0)=true callIn(0)=ISE stateOf(0)=3");
        Edge.due("P4 one that came when the race was over", OVER, "enter(20,500,0) callIn(1)=true callIn(0)=ISE");
        Edge.due("P4 one that rests", RESTING, "isCalledIn(0)=false callIn(0)=true pass(12)=0 stateOf(0)=1",
            "isCalledIn(0)=true");
        Edge.due("P4 twice ahead of the lap's end", RACING, "callIn(0)=true callIn(0)=false pass(21)=0 flown(0)=408",
            "stateOf(0)=1 rests()=0");
    }

    private static void pairOfTwo() {
        Edge.due("P5 a pair", TWO, "pair(0,1)=1 partnerOf(0)=1 partnerOf(1)=0 pair(1,0)=1 partnerOf(0)=1");
        Edge.due("P5 both the same", TWO, "pair(0,0)=IAE pair(1,1)=IAE partnerOf(0)=ISE");
        Edge.due("P5 no such sparrow", TWO, "pair(0,2)=IOOBE pair(2,0)=IOOBE pair(-1,0)=IOOBE pair(0,-1)=IOOBE",
            "pair(1,2147483647)=IOOBE pair(-2147483648,1)=IOOBE");
        Edge.due("P5 no such sparrow ahead of the same", TWO, "pair(2,2)=IOOBE pair(-1,-1)=IOOBE");
        Edge.due("P5 only one sparrow", ONE, "pair(0,0)=IAE pair(0,1)=IOOBE");
        Edge.due("P5 while the race goes on", TWO, "begin() pair(0,1)=1 pass(3)=0 partnerOf(0)=1");
        Edge.due("P5 behind the race", OVER, "enter(20,500,0) pair(1,0)=1 partnerOf(0)=1");
    }

    private static void pairsOfEight() {
        Edge.due("P5 four pairs are the most", EIGHT, "pair(0,1)=1 pair(2,3)=2 pair(4,5)=3 pair(7,6)=4 pair(7,8)=IOOBE",
            "partnerOf(6)=7 partnerOf(7)=6");
        Edge.due("P5 in place of two pairs", EIGHT, "pair(0,1) pair(2,3) pair(4,5) pair(6,7) pair(7,0)=3",
            "partnerOf(7)=0 partnerOf(0)=7 partnerOf(1)=ISE partnerOf(6)=ISE partnerOf(2)=3 pair(1,6)=4");
        Edge.due("P5 in place of one pair", EIGHT, "pair(0,1) pair(1,2)=1 partnerOf(0)=ISE partnerOf(1)=2 partnerOf(2)=1",
            "pair(3,2)=1 partnerOf(1)=ISE partnerOf(2)=3");
        Edge.due("P5 the same pair again", EIGHT, "pair(3,4)=1 pair(3,4)=1 pair(4,3)=1 savedStates()=6");
    }

    private static void setLimit() {
        for (int corner = 0; corner < 4; corner++) {
            String at = "(" + corner;
            Edge.due("P6 limit 8 to 40", "setLimit" + at + ",8)=20 limitOf" + at + ")=8 setLimit" + at + ",40)=8",
                "limitOf" + at + ")=40 setLimit" + at + ",7)=IAE setLimit" + at + ",41)=IAE",
                "limitOf" + at + ")=40 limitOf(" + (corner + 1) % 4 + ")=20");
        }
        Edge.due("P6 out of range", "setLimit(0,-8)=IAE setLimit(0,-2147483648)=IAE setLimit(3,2147483647)=IAE");
        Edge.due("P6 corner 0 to 3", "setLimit(-1,20)=IOOBE setLimit(4,20)=IOOBE setLimit(-2147483648,20)=IOOBE",
            "setLimit(2147483647,20)=IOOBE");
        Edge.due("P6 no such corner ahead of out of range", "setLimit(-1,7)=IOOBE setLimit(4,41)=IOOBE");
        Edge.due("P6 also if it changes nothing", "setLimit(0,20)=20 savedStates()=1");
        Edge.due("P6 while the race goes on and behind it", RACING, "setLimit(1,9)=20 begin() limitOf(1)=9");
        Edge.due("P6 behind the race", OVER, "setLimit(1,9)=20 limitOf(1)=9");
    }

    private static void setLapsRange() {
        Edge.due("P7 laps 1 to 9", "setLaps(1)=2 setLaps(9)=1 setLaps(9)=9 setLaps(0)=IAE setLaps(10)=IAE setLaps(-1)=IAE",
            "setLaps(-2147483648)=IAE setLaps(2147483647)=IAE setLaps(3)=9");
        Edge.due("P7 also if it changes nothing", "setLaps(2)=2 savedStates()=1");
    }

    private static void setLapsWhen() {
        Edge.due("P7 while the race goes on", RACING, "setLaps(1)=ISE setLaps(2)=ISE setLaps(9)=ISE");
        Edge.due("P7 out of range ahead of the race", RACING, "setLaps(0)=IAE setLaps(10)=IAE");
        Edge.due("P7 while one of two flies", ONE_HAS_ARRIVED, "setLaps(3)=ISE");
        Edge.due("P7 when the race is over", OVER, "setLaps(3)=1 flown(0)=400 lapsOf(0)=1 stateOf(0)=3");
        Edge.due("P7 behind undo of begin", RACING, "undo() setLaps(3)=2");
    }

    /** Pace 10 costs 3 a second, so 999 last for 333 seconds; 270 feet more take 68 seconds of 4 feet. */
    private static void setLapsCount() {
        Edge.due("P7 one lap", "enter(10,999,0) setLaps(1) begin() pass(39)=0 stateOf(0)=1 pass(1)=1 flown(0)=400");
        Edge.due("P7 nine laps", "enter(10,999,0) setLaps(9) begin() pass(200)=0 pass(200)=0 flown(0)=3598 lapsOf(0)=8",
            "stateOf(0)=1 pass(1)=1 flown(0)=3600 lapsOf(0)=9 timeOf(0)=401 stateOf(0)=3 isRacing()=false");
    }

    private static void begin() {
        Edge.due("P8 no sparrow", "begin()=ISE setLaps(1) begin()=ISE " + ONE + " begin()=1");
        Edge.due("P8 one that is undone", ONE, "undo() begin()=ISE");
        Edge.due("P8 eight fly", EIGHT, "begin()=8 stateOf(0)=1 stateOf(7)=1");
        Edge.due("P8 behind the race, with one more", OVER, ONE, "begin()=2 stateOf(0)=1 stateOf(1)=1 flown(0)=0",
            "arrived()=0 arrivedAt(0)=IOOBE timeOf(0)=ISE isRacing()=true");
    }

    private static void beginInPlace() {
        Edge.due("P8 in place of one that goes on", RACING, "pass(3)=0 flown(0)=60 begin()=1 flown(0)=0 seconds()=0",
            "flownByAccount()=0 races()=2 isRacing()=true undo() flown(0)=60 seconds()=3 races()=1");
        Edge.due("P8 again at once", RACING, "begin()=1 begin()=1 races()=3");
    }

    private static void beginAllAtStart() {
        String slow = "enter(40,100,0) enter(20,999,0) setLimit(0,40) pair(0,1) begin() pass(9)";
        Edge.due("P8 lane, strength, wear as they came", slow, "callIn(0) laneOf(1)=1 wearOf(1)=5 begin()=2",
            "laneOf(0)=0 laneOf(1)=0 strengthOf(0)=100 strengthOf(1)=999 wearOf(0)=0 wearOf(1)=0 speedOf(0)=0",
            "flown(0)=0 flown(1)=0 isCalledIn(0)=false paceOf(0)=40 partnerOf(0)=1 limitOf(0)=40",
            "drafts()=0 changes()=0 rests()=0");
        Edge.due("P8 one that rests", RESTING, "rests()=1 begin()=1 stateOf(0)=1 rests()=0 strengthOf(0)=500",
            "pass(1)=0 flown(0)=20");
        Edge.due("P8 one that was called in ahead of it", ONE, "callIn(0)=true begin()=1 isCalledIn(0)=false",
            "pass(21)=0 flown(0)=408");
        Edge.due("P8 the pace stays", ONE, "setPace(0,31) begin()=1 paceOf(0)=31 pass(1)=0 flown(0)=31");
    }

    private static void passRange() {
        Edge.due("P9 seconds 1 to 200", "enter(10,999,0) setLaps(9) begin() pass(1)=0 seconds()=1 pass(200)=0",
            "seconds()=201 pass(0)=IAE pass(201)=IAE pass(-1)=IAE pass(-2147483648)=IAE pass(2147483647)=IAE");
    }

    private static void passWhen() {
        Edge.due("P9 no race goes on", ONE, "pass(1)=ISE pass(200)=ISE");
        Edge.due("P9 out of range ahead of no race", ONE, "pass(0)=IAE pass(201)=IAE");
        Edge.due("P9 the race is over", OVER, "pass(1)=ISE pass(0)=IAE");
        Edge.due("P9 none has begun since one came", OVER, ONE, "pass(1)=ISE");
    }

    private static void passAnswers() {
        Edge.due("P9 none arrives", RACING, "pass(1)=0");
        Edge.due("P9 all eight arrive", EIGHT, "setLaps(1) begin() pass(200)=8 arrived()=8 isRacing()=false");
        Edge.due("P9 those in these seconds alone", "enter(40,999,1) enter(10,999,0) setLaps(1) begin() pass(20)=1",
            "pass(19)=0 pass(1)=1 arrived()=2");
    }

    /** "An object is used for at most 512 calls": the last of them answers like any other. */
    private static void lastCall() {
        SparrowRace race = new SparrowRace();
        race.enter(10, 999, 0);
        race.setLaps(9);
        race.begin();
        for (int i = 4; i <= 510; i++) {
            race.seconds();
        }
        race.pass(1);
        Check.due("the 512th call", race.flown(0), 10);
    }
}
