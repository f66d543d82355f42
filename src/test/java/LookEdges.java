/** The boundary sentences of the promises 18 to 35, each with a row of its own. */
final class LookEdges {
    private static final String WIDE = "setLimit(0,40) setLimit(1,40) setLimit(2,40) setLimit(3,40)";
    private static final String WAITS = "enter(20,500,0)";
    private static final String FLIES = WAITS + " begin()";
    private static final String RESTS = FLIES + " callIn(0) pass(21)";
    private static final String ARRIVED = WAITS + " setLaps(1) begin() pass(21)";
    private static final String[] OF_BIRD = {"flown", "lapsOf", "speedOf", "strengthOf", "wearOf", "laneOf", "stateOf",
        "paceOf", "partnerOf", "isCalledIn", "placeByCounting", "birdByOrder", "gapAhead", "isDrafting", "whereIs",
        "allowance", "timeOf", "arrivedAt", "bestPace", "callIn"};

    private LookEdges() {
    }

    static void run() {
        noSuchSparrow();
        noSuchSparrowAheadOfTheState();
        theLastOfEight();
        sparrows();
        flownAndLaps();
        lapsBehindSetLaps();
        speed();
        strength();
        wear();
        lanes();
        states();
        paces();
        partners();
        calledIn();
        limits();
        placesOfEight();
        gapsAtTheSpot();
        gapsRound();
        gapsOfLaps();
        gapsOfThoseThatDoNotFly();
        draftingStates();
        whereOneIs();
        allowanceStates();
        allowanceAlone();
    }

    private static void noSuchSparrow() {
        for (String name : OF_BIRD) {
            Edge.due("no such sparrow", FLIES + " " + name + "(-1)=IOOBE " + name + "(1)=IOOBE " + name + "(8)=IOOBE "
                + name + "(-2147483648)=IOOBE " + name + "(2147483647)=IOOBE");
        }
    }

    private static void noSuchSparrowAheadOfTheState() {
        for (String state : new String[] {WAITS, RESTS, ARRIVED}) {
            Edge.due("no such sparrow, whatever the state", state, "partnerOf(1)=IOOBE isDrafting(1)=IOOBE isDrafting(-1)=IOOBE",
                "allowance(1)=IOOBE timeOf(1)=IOOBE timeOf(-1)=IOOBE callIn(1)=IOOBE bestPace(1)=IOOBE");
        }
    }

    private static void theLastOfEight() {
        String eight = "enter(20,500,0)*8 begin()";
        for (String name : OF_BIRD) {
            if (!name.equals("timeOf") && !name.equals("arrivedAt") && !name.equals("partnerOf")) {
                SparrowRace race = Script.run(Script.calls(eight));
                Check.due(name + " of the last of eight", Script.answer(race, name + "(7)").equals("IOOBE"), false);
            }
            Edge.due("no ninth", eight + " " + name + "(8)=IOOBE");
        }
        Edge.due("of the last of eight", eight, "partnerOf(7)=ISE timeOf(7)=ISE arrivedAt(7)=IOOBE pair(7,0)=1 partnerOf(7)=0");
    }

    private static void sparrows() {
        StringBuilder rows = new StringBuilder("sparrows()=0 ");
        for (int i = 1; i <= 8; i++) {
            rows.append("enter(20,500,0) sparrows()=").append(i).append(' ');
        }
        Edge.due("P18 0 to 8", rows.toString(), "enter(20,500,0)=ISE sparrows()=8 begin() sparrows()=8 pass(200) sparrows()=8");
    }

    private static void flownAndLaps() {
        Edge.due("P19 ahead of the race", WAITS, "flown(0)=0 lapsOf(0)=0");
        Edge.due("P19 at the start", FLIES, "flown(0)=0 lapsOf(0)=0");
        Edge.due("P20 0 up to the laps", "enter(10,999,0) begin() pass(39) flown(0)=390 lapsOf(0)=0 pass(1) flown(0)=400 lapsOf(0)=1",
            "pass(39) flown(0)=790 lapsOf(0)=1 pass(1) flown(0)=800 lapsOf(0)=2 stateOf(0)=3");
        Edge.due("P19 at the end", ARRIVED, "flown(0)=400 lapsOf(0)=1");
    }

    private static void lapsBehindSetLaps() {
        Edge.due("P20 the laps that are over", "enter(10,999,0) begin() pass(80) setLaps(9)=2 lapsOf(0)=2 flown(0)=800",
            "setLaps(2)=9 lapsOf(0)=2 begin() lapsOf(0)=0");
    }

    private static void speed() {
        Edge.due("P21 0 ahead of the first second", WAITS, "speedOf(0)=0 begin() speedOf(0)=0 pass(1) speedOf(0)=20 begin()",
            "speedOf(0)=0");
        Edge.due("P21 the latest second alone", FLIES, "pass(3) speedOf(0)=20 setPace(0,33) speedOf(0)=20 pass(1) speedOf(0)=33");
        Edge.due("P21 told as it is, at the end", WAITS, "setLaps(1) begin() pass(20) flown(0)=390 pass(1) speedOf(0)=10");
        Edge.due("P21 to the nest, in it, out of it", FLIES, "callIn(0) pass(21) speedOf(0)=10 pass(1) speedOf(0)=0 pass(11)",
            "stateOf(0)=1 speedOf(0)=0 pass(1) speedOf(0)=20");
        Edge.due("P21 0 behind the second of the arrival", "enter(20,500,0) enter(10,500,1) setLaps(1) begin() pass(21) stateOf(0)=3",
            "speedOf(0)=10 pass(1) speedOf(0)=0 speedOf(1)=10");
    }

    private static void strength() {
        Edge.due("P22 0 to 999", "enter(10,100,0) enter(10,999,1) strengthOf(0)=100 strengthOf(1)=999 begin() pass(33)",
            "strengthOf(0)=1 strengthOf(1)=900 pass(1) strengthOf(0)=1");
        Edge.due("P22 none is left", "enter(12,100,0) begin() pass(25) strengthOf(0)=0 pass(9) strengthOf(0)=0");
        Edge.due("P22 as much as can be", "enter(10,999,0) begin() callIn(0) pass(40) strengthOf(0)=999 pass(12) strengthOf(0)=999",
            "pass(1) strengthOf(0)=996");
    }

    private static void wear() {
        Edge.due("P23 none at first", WAITS, "wearOf(0)=0 begin() wearOf(0)=0 pass(1) wearOf(0)=1");
        Edge.due("P23 none behind the nest", FLIES, "pass(20) wearOf(0)=20 callIn(0) pass(1) wearOf(0)=0 pass(12) wearOf(0)=0",
            "pass(1) wearOf(0)=1");
        Edge.due("P23 none in the next race", ARRIVED, "wearOf(0)=21 begin() wearOf(0)=0");
    }

    private static void lanes() {
        Edge.due("P24 inside, outside", "enter(10,500,0) enter(20,500,0) enter(30,500,1) laneOf(0)=0 laneOf(1)=0 laneOf(2)=1",
            "begin() pass(1) laneOf(0)=0 laneOf(1)=0 laneOf(2)=1 pass(1) laneOf(1)=1");
    }

    private static void states() {
        Edge.due("P25 it waits", WAITS, "stateOf(0)=0");
        Edge.due("P25 it flies", FLIES, "stateOf(0)=1");
        Edge.due("P25 it rests", RESTS, "stateOf(0)=2");
        Edge.due("P25 it has arrived", ARRIVED, "stateOf(0)=3");
        Edge.due("P25 it waits for the next race", ARRIVED, WAITS, "stateOf(1)=0 stateOf(0)=3 begin() stateOf(0)=1 stateOf(1)=1");
    }

    private static void paces() {
        Edge.due("P26 10 to 40", "enter(10,500,0) enter(40,500,1) paceOf(0)=10 paceOf(1)=40 begin() pass(20) paceOf(1)=40");
        Edge.due("P26 the pace, not the allowance", "enter(40,500,0) begin() pass(2) allowance(0)=20 paceOf(0)=40");
    }

    private static void partners() {
        Edge.due("P27 in no pair", "enter(20,500,0)*3 partnerOf(0)=ISE pair(0,2) partnerOf(0)=2 partnerOf(2)=0 partnerOf(1)=ISE",
            "partnerOf(3)=IOOBE partnerOf(-1)=IOOBE begin() partnerOf(0)=2 pass(200) partnerOf(2)=0 begin() partnerOf(2)=0");
    }

    private static void calledIn() {
        Edge.due("P28 until its lap is over", FLIES, "isCalledIn(0)=false callIn(0) isCalledIn(0)=true pass(20) isCalledIn(0)=true",
            "pass(1) isCalledIn(0)=false");
        Edge.due("P28 of each its own", "enter(20,500,0)*2 callIn(1) isCalledIn(0)=false isCalledIn(1)=true");
    }

    private static void limits() {
        Edge.due("P29 corner 0 to 3", "limitOf(0)=20 limitOf(3)=20 limitOf(-1)=IOOBE limitOf(4)=IOOBE limitOf(-2147483648)=IOOBE",
            "limitOf(2147483647)=IOOBE");
        Edge.due("P29 8 to 40", "setLimit(0,8) setLimit(3,40) limitOf(0)=8 limitOf(1)=20 limitOf(2)=20 limitOf(3)=40");
    }

    private static void placesOfEight() {
        StringBuilder start = new StringBuilder("enter(20,500,0)*8 ");
        StringBuilder turned = new StringBuilder();
        for (int i = 0; i < 8; i++) {
            start.append("placeByCounting(").append(i).append(")=").append(i).append(" birdByOrder(").append(i).append(")=")
                .append(i).append(' ');
            turned.append("enter(").append(10 + i).append(",500,").append(i % 2).append(") ");
        }
        Edge.due("P30, P31 eight at the start", start.toString(), "birdByOrder(8)=IOOBE birdByOrder(-1)=IOOBE");
        Edge.due("P30, P31 two that turn places", "enter(10,500,0) enter(20,500,1) birdByOrder(0)=0 begin() birdByOrder(0)=0 pass(1)",
            "birdByOrder(0)=1 birdByOrder(1)=0 placeByCounting(0)=1 placeByCounting(1)=0");
        SparrowRace race = Script.run(Script.calls(turned + "begin() pass(37)"));
        for (int place = 0; place < 8; place++) {
            Check.due("P30 and P31 tell the same of place " + place, race.placeByCounting(race.birdByOrder(place)), place);
        }
        Edge.due("P31 not so many", "birdByOrder(0)=IOOBE enter(20,500,0) birdByOrder(0)=0 birdByOrder(1)=IOOBE birdByOrder(-1)=IOOBE",
            "birdByOrder(-2147483648)=IOOBE birdByOrder(2147483647)=IOOBE");
        Edge.due("P31 not so many any longer", "keep(0) enter(20,500,0)*2 birdByOrder(1)=1 undo() birdByOrder(1)=IOOBE birdByOrder(0)=0",
            "goBack(0) birdByOrder(0)=IOOBE");
    }

    private static void gapsAtTheSpot() {
        Edge.due("P32 400 at the same spot", "enter(20,999,0)*2 begin() gapAhead(0)=400 gapAhead(1)=400");
        Edge.due("P32 of several the next one", "enter(30,999,0) enter(20,999,0) enter(10,999,0) begin() pass(1) gapAhead(2)=10",
            "gapAhead(1)=10 gapAhead(0)=380");
        Edge.due("P32 none in its lane", "enter(20,999,0) enter(20,999,1) begin() gapAhead(0)=0 gapAhead(1)=0");
        Edge.due("P32 none at all", FLIES, "gapAhead(0)=0");
    }

    private static void gapsRound() {
        Edge.due("P32 1 and 399", "enter(10,999,0) enter(11,999,0) enter(10,999,1) begin() pass(1) flown(1)=9 gapAhead(1)=1",
            "gapAhead(0)=399");
        Edge.due("P32 across the end of the lap", "enter(40,999,0) enter(30,999,0) setLaps(9)", WIDE, "begin() pass(10) flown(0)=400",
            "flown(1)=300 gapAhead(1)=100 gapAhead(0)=300 pass(1) flown(0)=439 flown(1)=329 gapAhead(1)=110 gapAhead(0)=290");
    }

    private static void gapsOfLaps() {
        Edge.due("P32 also if that has flown a lap fewer", "enter(34,999,0) enter(10,999,0) setLaps(9)", WIDE,
            "begin() pass(1) setPace(0,33) pass(9) flown(0)=331 flown(1)=100 gapAhead(0)=169 gapAhead(1)=231 setPace(0,34)",
            "pass(6) flown(0)=529 flown(1)=160 gapAhead(0)=31 gapAhead(1)=369 laneOf(0)=0");
        Edge.due("P32 also past one in its nest, 551 feet more", "enter(30,999,0) enter(20,999,0) setLaps(9)", WIDE,
            "begin() callIn(1) pass(33) flown(0)=951 flown(1)=400 stateOf(1)=1 gapAhead(0)=249 gapAhead(1)=151",
            "laneOf(0)=0 laneOf(1)=0");
    }

    private static void gapsOfThoseThatDoNotFly() {
        Edge.due("P32 one that waits", "enter(20,999,0)*2 gapAhead(0)=0 gapAhead(1)=0");
        Edge.due("P32 one that rests", "enter(20,999,0) enter(10,999,0) begin() callIn(0) pass(20) gapAhead(1)=190 pass(1) gapAhead(1)=0",
            "gapAhead(0)=210 pass(11) gapAhead(1)=0 pass(1) gapAhead(1)=70 gapAhead(0)=330");
        Edge.due("P32 one that has arrived", "enter(20,999,0) enter(10,999,0) setLaps(1) begin() pass(21) stateOf(0)=3 gapAhead(1)=0",
            "gapAhead(0)=210");
        Edge.due("P32 behind the race", "enter(20,999,0) enter(10,999,0) setLaps(1) begin() pass(40) gapAhead(0)=0 gapAhead(1)=0");
    }

    private static void draftingStates() {
        Edge.due("P33 it waits", WAITS, "isDrafting(0)=ISE isDrafting(1)=IOOBE");
        Edge.due("P33 it flies", FLIES, "isDrafting(0)=false");
        Edge.due("P33 it rests", RESTS, "isDrafting(0)=ISE pass(11) isDrafting(0)=ISE pass(1) isDrafting(0)=false");
        Edge.due("P33 it has arrived", ARRIVED, "isDrafting(0)=ISE");
    }

    private static void whereOneIs() {
        Edge.due("P34 in its nest", RESTS, "whereIs(0)=0");
        Edge.due("P34 arrived", ARRIVED, "whereIs(0)=0");
        Edge.due("P34 0 to 7", "enter(10,999,0) begin() pass(6) whereIs(0)=0 pass(1) whereIs(0)=4 pass(3) whereIs(0)=1 pass(7) whereIs(0)=5",
            "pass(3) whereIs(0)=2 pass(7) whereIs(0)=6 pass(3) whereIs(0)=3 pass(7) whereIs(0)=7 pass(3) whereIs(0)=0");
    }

    private static void allowanceStates() {
        Edge.due("P35 it waits", WAITS, "allowance(0)=ISE allowance(1)=IOOBE");
        Edge.due("P35 it flies", FLIES, "allowance(0)=20");
        Edge.due("P35 it rests", RESTS, "allowance(0)=ISE pass(11) allowance(0)=ISE pass(1) allowance(0)=20");
        Edge.due("P35 it has arrived", ARRIVED, "allowance(0)=ISE");
    }

    private static void allowanceAlone() {
        Edge.due("P35 without regard to others", "enter(10,999,0) enter(40,999,0) enter(10,999,1) begin() pass(1) flown(1)=9 gapAhead(1)=1",
            "allowance(1)=40");
        Edge.due("P35 without a draft", "enter(20,999,0) enter(12,999,0) pair(0,1) begin() pass(1) isDrafting(1)=true allowance(1)=12");
        Edge.due("P35 without regard to its strength", "enter(40,100,0) begin() pass(3) strengthOf(0)=7 allowance(0)=40 pass(1)",
            "speedOf(0)=4");
        Edge.due("P35 without regard to what is further ahead", "enter(20,999,0) setLaps(1) begin() pass(20) flown(0)=390 allowance(0)=18",
            "pass(1) speedOf(0)=10");
    }
}
