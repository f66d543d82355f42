/** The boundary sentences of the section "Terms": the course, and how a second goes by. */
final class SecondEdges {
    private static final String WIDE = "setLimit(0,40) setLimit(1,40) setLimit(2,40) setLimit(3,40)";

    private SecondEdges() {
    }

    static void run() {
        partsOfTheCourse();
        cornersFromTheirBeginning();
        everyCorner();
        outside();
        twoLaps();
        places();
        inOrderOfPlaces();
        arrivedDoNotFly();
        tenthOfWear();
        limitThenWear();
        atLeastFour();
        draftBehindAtLeastFour();
        draftBounds();
        noDraftAtTheSameSpot();
        lowestNumberAhead();
        asNearAsOneFoot();
        asNearWithItsDraft();
        onStraightsAlone();
        threeFeetAheadOrBehind(0);
        threeFeetAheadOrBehind(1);
        threeFeetAcrossTheLap();
        nestIsNotBeside();
        fromBothLanes();
        notAtAll();
        leavesNestAtItsTurn();
        strengthJustEnough();
        strengthInDraft();
        weakFliesFour();
        weakFliesLess();
        wearFromFifteen();
        wearAtMost();
        lapEnd();
        lapEndIsCut();
        nestStrength();
        restOfTwelve();
        restTwice();
        nobodysWay();
        noMoreSeconds();
    }

    /** Steps of 10 to 14 feet, which wear nobody, to just so many feet; the pace is 14 or less then. */
    static String flyTo(int bird, int feet) {
        int steps = feet / 12;
        int more = feet % steps;
        String less = "setPace(" + bird + "," + feet / steps + ") pass(" + (steps - more) + ")";
        return more == 0 ? less : less + " setPace(" + bird + "," + (feet / steps + 1) + ") pass(" + more + ")";
    }

    private static String at(int feet, int lane) {
        return "enter(14,999," + lane + ") setLaps(9) begin() " + flyTo(0, feet) + " flown(0)=" + feet + " ";
    }

    private static void partsOfTheCourse() {
        int[][] spots = {{69, 0}, {70, 4}, {99, 4}, {100, 1}, {169, 1}, {170, 5}, {199, 5}, {200, 2}, {269, 2},
            {270, 6}, {299, 6}, {300, 3}, {369, 3}, {370, 7}, {399, 7}, {400, 0}, {469, 0}, {470, 4}, {799, 7},
            {800, 0}};
        Edge.due("P34 at the start", "enter(20,500,0) whereIs(0)=0 begin() whereIs(0)=0");
        for (int[] spot : spots) {
            Edge.due("P34 the last and the first foot", at(spot[0], 0), "whereIs(0)=" + spot[1]);
        }
    }

    private static void cornersFromTheirBeginning() {
        String far = " setPace(0,40) ";
        Edge.due("69 is on the straight", at(69, 0), far, "allowance(0)=40 pass(1) flown(0)=109 speedOf(0)=40");
        Edge.due("70 is in the corner", at(70, 0), far, "allowance(0)=20 pass(1) flown(0)=90 speedOf(0)=20");
        Edge.due("99 is in the corner", at(99, 0), far, "allowance(0)=20 pass(1) flown(0)=119");
        Edge.due("100 is on the straight", at(100, 0), far, "allowance(0)=40 pass(1) flown(0)=140");
        Edge.due("399 is in the corner", at(399, 0), far, "allowance(0)=20 pass(1) flown(0)=419");
        Edge.due("400 is on the straight", at(400, 0), far, "allowance(0)=40 pass(1) flown(0)=440");
    }

    private static void everyCorner() {
        for (int corner = 0; corner < 4; corner++) {
            String there = at(80 + 100 * corner, 0) + " setPace(0,40) allowance(0)=20";
            Edge.due("20 feet a second at first", there);
            Edge.due("its own limit", there, "setLimit(" + corner + ",33) allowance(0)=33 setLimit("
                + (corner + 1) % 4 + ",8) allowance(0)=33 setLimit(" + corner + ",40) allowance(0)=40 pass(1)",
                "speedOf(0)=40");
        }
    }

    private static void outside() {
        Edge.due("outside 2 feet more", at(80, 1), "setPace(0,40) allowance(0)=22 pass(1) flown(0)=102");
        Edge.due("outside as far as its pace", at(80, 1), "setPace(0,21) allowance(0)=21 setPace(0,22)",
            "allowance(0)=22 setPace(0,23) allowance(0)=22");
        Edge.due("inside as far as its pace", at(80, 0), "setPace(0,19) allowance(0)=19 setPace(0,20)",
            "allowance(0)=20 setPace(0,21) allowance(0)=20");
        Edge.due("the least limit", at(80, 1), "setLimit(0,8) allowance(0)=10 setPace(0,10) allowance(0)=10");
        Edge.due("the most limit", at(80, 1), "setLimit(0,40) setPace(0,40) allowance(0)=40");
        Edge.due("not on a straight", at(60, 1), "setPace(0,40) allowance(0)=40");
    }

    private static void twoLaps() {
        String begun = "enter(14,999,0) begin() ";
        Edge.due("799 of 2 laps", begun, flyTo(0, 799), "flown(0)=799 stateOf(0)=1 lapsOf(0)=1 isRacing()=true",
            "pass(1)=1 flown(0)=800 speedOf(0)=1 stateOf(0)=3 lapsOf(0)=2 isRacing()=false");
        Edge.due("800 of 2 laps", begun, flyTo(0, 800), "flown(0)=800 stateOf(0)=3 lapsOf(0)=2 isRacing()=false");
    }

    private static void places() {
        Edge.due("further is ahead", "enter(20,500,0) enter(21,500,1) begin() pass(1) placeByCounting(1)=0",
            "placeByCounting(0)=1 birdByOrder(0)=1 birdByOrder(1)=0");
        Edge.due("as far, the lower number is ahead", "enter(20,500,1) enter(20,500,0) begin() pass(1)",
            "placeByCounting(0)=0 placeByCounting(1)=1 birdByOrder(0)=0 birdByOrder(1)=1");
        Edge.due("arrived earlier is ahead, arrived ahead of all others",
            "enter(20,999,0) enter(10,999,0) enter(40,999,1) setLaps(1)", WIDE, "begin() pass(30) timeOf(2)=10",
            "timeOf(0)=21 stateOf(1)=1 birdByOrder(0)=2 birdByOrder(1)=0 birdByOrder(2)=1 birdByOrder(3)=IOOBE",
            "placeByCounting(2)=0 placeByCounting(0)=1 placeByCounting(1)=2");
        Edge.due("arrived ahead of one that came later", "enter(20,500,0) setLaps(1) begin() pass(21)",
            "enter(10,100,0) birdByOrder(0)=0 birdByOrder(1)=1");
    }

    /** 0 has flown 390 feet in 20 seconds, 1 has flown 391: 21 feet, 9 times 20 and 10 times 19. */
    private static void inOrderOfPlaces() {
        String near = "enter(20,999,0) enter(21,999,1) setLaps(1) begin() pass(1) setPace(1,20) pass(19)";
        Edge.due("those that arrive in the same second", near, "flown(0)=390 flown(1)=391 wouldWin()=1",
            "secondsToNext()=1 pass(1)=2 arrivedAt(0)=1 arrivedAt(1)=0 timeOf(0)=21 timeOf(1)=21",
            "placeByCounting(1)=0 placeByCounting(0)=1 birdByOrder(0)=1");
        Edge.due("as far, the lower number arrives first", "enter(20,999,1) enter(20,999,0) setLaps(1) begin()",
            "wouldWin()=0 pass(21)=2 arrivedAt(0)=0 arrivedAt(1)=1 timeOf(1)=21");
        Edge.due("of several the one ahead by its place then", "enter(38,999,0) enter(39,999,1) setLaps(1)", WIDE,
            "begin() wouldWin()=1 secondsToNext()=11 pass(10)=0 flown(0)=380 flown(1)=390 pass(1)=2 arrivedAt(0)=1");
    }

    private static void arrivedDoNotFly() {
        Edge.due("those that have arrived do not", "enter(40,999,1) enter(10,999,0) setLaps(1)", WIDE,
            "begin() pass(9)=0 pass(1)=1 flown(0)=400 speedOf(0)=40 strengthOf(0)=589 pass(1)=0 flown(0)=400",
            "speedOf(0)=0 strengthOf(0)=589 wearOf(0)=10 laneOf(0)=1 flown(1)=110 speedOf(1)=10");
    }

    private static void tenthOfWear() {
        Edge.due("a tenth of the wear, rounded down", "enter(20,999,0) setLaps(9)", WIDE, "begin() allowance(0)=20",
            "pass(1) wearOf(0)=1 allowance(0)=20 pass(8) wearOf(0)=9 allowance(0)=20 pass(1) wearOf(0)=10",
            "allowance(0)=19 pass(9) wearOf(0)=19 allowance(0)=19 pass(1) flown(0)=390 wearOf(0)=20 allowance(0)=18");
    }

    private static void limitThenWear() {
        Edge.due("the limit, less by the wear", "enter(20,999,0) begin() pass(10) setPace(0,40) pass(1) setPace(0,32)",
            "pass(1) flown(0)=270 wearOf(0)=12 setPace(0,40) allowance(0)=19 setLimit(2,8) allowance(0)=7",
            "setLimit(2,40) allowance(0)=39 setPace(0,10) allowance(0)=9");
    }

    /** Fifteen feet in each second: the pace is raised by what the wear takes. */
    private static String worn(int tens) {
        StringBuilder s = new StringBuilder("enter(15,999,0) setLaps(9) " + WIDE + " begin() pass(10)");
        for (int i = 1; i < tens; i++) {
            s.append(" setPace(0,").append(15 + i).append(") pass(10)");
        }
        return s + " flown(0)=" + 150 * tens + " wearOf(0)=" + 10 * tens + " setPace(0,10) ";
    }

    private static void atLeastFour() {
        Edge.due("5 feet", worn(5), "allowance(0)=5 pass(1) speedOf(0)=5");
        Edge.due("just 4 feet", worn(6), "allowance(0)=4 pass(1) speedOf(0)=4");
        Edge.due("at least 4 feet", worn(7), "allowance(0)=4 pass(1) speedOf(0)=4");
        Edge.due("at least 4 feet in a corner", worn(5), "pass(4) flown(0)=770 whereIs(0)=7 setLimit(3,10)",
            "allowance(0)=5 setLimit(3,9) allowance(0)=4 setLimit(3,8) allowance(0)=4 pass(1) speedOf(0)=4");
        Edge.due("at least 4 feet, worn as can be", worn(10), "allowance(0)=4 setPace(0,14) allowance(0)=4",
            "setPace(0,15) allowance(0)=5 setPace(0,40) allowance(0)=30");
    }

    /**
     * Sparrow 1 comes from its nest at 800 feet in the second 56; sparrow 0 is 8 feet behind it
     * along the course then, in the corner 3, worn by 56, so that 8 feet less 5 are 4 at least.
     */
    private static void draftBehindAtLeastFour() {
        String far = "enter(22,999,0) enter(20,999,0) setLaps(9) " + WIDE + " begin() pass(10) setPace(0,23) pass(20)"
            + " setPace(0,24) pass(10) callIn(1) setPace(0,25) pass(14) setPace(0,24) pass(1) setPace(0,28)"
            + " flown(0)=1169 stateOf(1)=2 flown(1)=800 pass(1) stateOf(1)=1 flown(0)=1192 wearOf(0)=56"
            + " gapAhead(0)=8 isDrafting(0)=true setLimit(3,8) allowance(0)=4 drafts()=0 changes()=0 ";
        Edge.due("1 foot further than at least 4", far, "pass(1) flown(0)=1197 drafts()=1");
        Edge.due("2 feet further than at least 4", far, "pair(0,1) pass(1) flown(0)=1198 drafts()=1");
    }

    /**
     * Sparrow 0 has strength for 100 feet, and flies 4 in a second from then on: 104, 108, 112 in
     * the seconds 4, 5, 6. Sparrow 1 is at 104 or 103 in the second 5.
     */
    private static String behindSlowOne(int pace) {
        return "enter(40,100,0) enter(20,999,0) setLaps(9) begin() pass(2) setPace(1," + pace + ") pass(1)"
            + " setPace(1,20) pass(1) setPace(1,19) pass(1) setPace(1,20) flown(0)=108 ";
    }

    private static void draftBounds() {
        Edge.due("8 feet, as it is at its turn", behindSlowOne(25), "flown(1)=104 strengthOf(1)=940 pass(1) flown(0)=112",
            "flown(1)=125 laneOf(1)=1 strengthOf(1)=933 drafts()=1 changes()=1");
        Edge.due("9 feet, as it is at its turn", behindSlowOne(24), "flown(1)=103 gapAhead(1)=5 isDrafting(1)=true",
            "pass(1) flown(1)=123 laneOf(1)=1 drafts()=0 changes()=1");
        Edge.due("2 feet further behind its partner", behindSlowOne(25), "pair(0,1) pass(1) flown(1)=126 drafts()=1");
        Edge.due("1 foot further behind another one", behindSlowOne(25), "enter(20,500,0)=ISE pass(1) flown(1)=125");
        Edge.due("8 feet now", "enter(20,999,0) enter(12,999,0) begin() pass(1) gapAhead(1)=8 isDrafting(1)=true",
            "isDrafting(0)=false");
        Edge.due("9 feet now", "enter(20,999,0) enter(11,999,0) begin() pass(1) gapAhead(1)=9 isDrafting(1)=false");
        Edge.due("1 foot now", "enter(10,999,0) enter(11,999,0) enter(10,999,1) begin() pass(1) gapAhead(1)=1",
            "isDrafting(1)=true");
        Edge.due("not in the other lane", "enter(20,999,0) enter(12,999,1) begin() pass(1) gapAhead(1)=0",
            "isDrafting(1)=false");
    }

    private static void noDraftAtTheSameSpot() {
        Edge.due("one at the same spot is 400 feet ahead", "enter(20,999,0) enter(20,999,0) begin() gapAhead(0)=400",
            "gapAhead(1)=400 isDrafting(0)=false isDrafting(1)=false pass(1) flown(0)=20 drafts()=0",
            "flown(1)=20 laneOf(0)=0 laneOf(1)=1 changes()=1");
    }

    /** 1 and 2 come to 400 feet in the second 21, and from their nests in the second 33. */
    private static void lowestNumberAhead() {
        String twoAtOneSpot = "enter(24,999,0) enter(20,999,0) enter(11,999,0) setLaps(9) " + WIDE + " begin() pass(1)"
            + " setPace(2,20) pass(9) setPace(0,25) pass(10) setPace(0,26) callIn(1) callIn(2) pass(1) stateOf(1)=2"
            + " stateOf(2)=2 pass(9) setPace(0,27) pass(3) flown(0)=792 flown(1)=400 flown(2)=400 stateOf(1)=1"
            + " stateOf(2)=1 gapAhead(0)=8 gapAhead(1)=392 gapAhead(2)=392 setLimit(3,8) allowance(0)=5 ";
        Edge.due("the lowest number is the partner", twoAtOneSpot, "pair(0,1) pass(1) flown(0)=799");
        Edge.due("the lowest number is not the partner", twoAtOneSpot, "pair(0,2) pass(1) flown(0)=798");
        Edge.due("none is the partner", twoAtOneSpot, "pass(1) flown(0)=798 drafts()=1");
    }

    private static void asNearAsOneFoot() {
        Edge.due("2 feet behind it", "enter(15,999,0) enter(13,999,0) begin() pass(1) flown(1)=13 laneOf(1)=0 changes()=0");
        Edge.due("as near as 1 foot", "enter(14,999,0) enter(13,999,0) begin() pass(1) flown(1)=13 laneOf(1)=1 changes()=1");
        Edge.due("just to it", "enter(13,999,0) enter(13,999,0) begin() pass(1) flown(1)=13 laneOf(1)=1 changes()=1");
        Edge.due("past it", "enter(10,999,0) enter(40,999,0) begin() pass(1) flown(1)=40 laneOf(1)=1 changes()=1");
        Edge.due("not to the one in the other lane", "enter(10,999,1) enter(40,999,0) begin() pass(1) flown(1)=40",
            "laneOf(1)=0 changes()=0");
    }

    /**
     * After 40 seconds sparrow 0 has flown 625 feet, and has no strength for more than 4 in a second;
     * sparrow 1 has flown 600, and is worn by 40. So it flies on from 4 or 5 feet behind 0.
     */
    private static String wornBehindWeakOne(int pace) {
        return "enter(40,275,0) enter(15,999,0) setLaps(9) " + WIDE + " begin() pass(1) setPace(0,15) pass(9) setPace(0,16)"
            + " setPace(1,16) pass(10) setPace(0,17) setPace(1,17) pass(10) setPace(0,18) setPace(1,18) pass(10) flown(0)=625"
            + " flown(1)=600 strengthOf(0)=0 setPace(1," + pace + ") pass(1) flown(0)=629 setPace(1,10) allowance(1)=6 ";
    }

    private static void asNearWithItsDraft() {
        Edge.due("as near as 1 foot with the foot of its draft", wornBehindWeakOne(29), "flown(1)=625 pass(1) flown(0)=633",
            "flown(1)=632 laneOf(1)=1 drafts()=1 changes()=1");
        Edge.due("as near as 1 foot with the 2 feet of its draft", wornBehindWeakOne(29), "pair(0,1) pass(1) flown(0)=633",
            "flown(1)=633 laneOf(1)=1 drafts()=1 changes()=1");
        Edge.due("9 feet behind, without a draft", wornBehindWeakOne(28), "flown(1)=624 pass(1) flown(0)=633 flown(1)=630",
            "laneOf(1)=0 drafts()=0 changes()=0");
    }

    /** Sparrow 0 flies 40, 80, 84, 88 and so on; in the second 8 it is at 104, in the second 9 at 108. */
    private static void onStraightsAlone() {
        String slow = "enter(40,100,0) enter(20,999,0) setLimit(0,40) begin() ";
        Edge.due("from 69", slow, "pass(2) setPace(1,29) pass(1) flown(1)=69 flown(0)=84 pass(1) flown(0)=88",
            "laneOf(1)=1 flown(1)=98 changes()=1");
        Edge.due("from 70", slow, "pass(2) setPace(1,30) pass(1) flown(1)=70 pass(1) laneOf(1)=0 flown(1)=87",
            "changes()=0 drafts()=0");
        String on = slow + "setPace(1,12) pass(6) setPace(1,13) pass(1) ";
        Edge.due("from 99", on, "setPace(1,14) pass(1) flown(1)=99 setPace(1,20) pass(1) flown(0)=108 laneOf(1)=0",
            "flown(1)=107 changes()=0 drafts()=0");
        Edge.due("from 100", on, "setPace(1,15) pass(1) flown(1)=100 setPace(1,20) pass(1) laneOf(1)=1 flown(1)=121",
            "changes()=1 drafts()=1");
    }

    /**
     * After 20 seconds sparrow 0 has flown 604 feet, with 1 in its lane 16 feet ahead along the
     * course, and 2 in the other lane at 190 + first: both of them fly later in a second than it.
     */
    private static String beside(int lane, int strength, int first) {
        return "enter(34," + strength + "," + lane + ") enter(30,999," + lane + ") enter(" + first + ",999," + (1 - lane)
            + ") setLaps(9) " + WIDE + " begin() pass(1) setPace(0,30) setPace(1,10) setPace(2,10) pass(9) setPace(0,31)"
            + " pass(10) flown(0)=604 flown(1)=220 flown(2)=" + (190 + first) + " gapAhead(0)=16 setPace(0,22) ";
    }

    private static void threeFeetAheadOrBehind(int lane) {
        String stays = "pass(1) laneOf(0)=" + lane + " flown(0)=619 changes()=0";
        String changes = "pass(1) laneOf(0)=" + (1 - lane) + " changes()=1 flown(0)=";
        Edge.due("4 feet behind it", beside(lane, 999, 10), changes + 624);
        for (int first = 11; first <= 17; first++) {
            Edge.due("3 feet or less, " + (first - 14), beside(lane, 999, first), stays);
        }
        Edge.due("4 feet ahead, and 1 foot behind that one", beside(lane, 999, 18), changes + 607);
        Edge.due("in no draft of the lane to which it changes", beside(lane, 999, 18), "drafts()=0 pass(1) speedOf(0)=3 drafts()=0");
        Edge.due("5 feet ahead, and 1 foot behind that one", beside(lane, 999, 19), changes + 608);
        Edge.due("1 foot less, for 1 foot behind", beside(lane, 999, 34), changes + 623);
        Edge.due("as far as it may, 1 foot behind", beside(lane, 999, 35), changes + 624);
        Edge.due("further ahead than it may fly", beside(lane, 999, 36), changes + 624);
    }

    /** In the second 31 sparrow 0 is at 412 and 1 at 402; 2 is outside, behind the end of the lap. */
    private static String acrossTheLap(int last) {
        return "enter(22,999,0) enter(12,999,0) enter(10,999,1) begin() pass(1) setPace(0,13) setPace(1,13)"
            + " setPace(2,13) pass(29) setPace(2," + last + ") pass(1) flown(0)=412 flown(1)=402 flown(2)="
            + (387 + last) + " setPace(0,10) setPace(1,25) ";
    }

    private static void threeFeetAcrossTheLap() {
        Edge.due("4 feet behind, across the lap", acrossTheLap(11), "pass(1) laneOf(1)=1 flown(1)=427 changes()=1");
        Edge.due("3 feet behind, across the lap", acrossTheLap(12), "pass(1) laneOf(1)=0 flown(1)=421 changes()=0");
        Edge.due("2 feet behind", acrossTheLap(13), "pass(1) laneOf(1)=0 flown(1)=421");
        Edge.due("2 feet ahead", acrossTheLap(10), "flown(2)=397 pass(1) laneOf(1)=1");
    }

    /** Sparrow 2 comes from its nest at 400 in the second 31 or 32; 1 is at 402 in the second 31. */
    private static String besideNest(int pace) {
        return "enter(22,999,0) enter(12,999,0) enter(" + pace + ",999,1) begin() callIn(2) pass(1) setPace(0,13)"
            + " setPace(1,13) pass(30) flown(0)=412 flown(1)=402 flown(2)=400 setPace(0,10) setPace(1,25) ";
    }

    private static void nestIsNotBeside() {
        Edge.due("one that flies again", besideNest(22), "stateOf(2)=1 pass(1) laneOf(1)=0 flown(1)=421 changes()=0");
        Edge.due("one that rests", besideNest(21), "stateOf(2)=2 pass(1) stateOf(2)=1 laneOf(1)=1 flown(1)=427");
    }

    private static void fromBothLanes() {
        Edge.due("from outside to inside", "enter(10,999,1) enter(20,999,1) begin() pass(1) laneOf(1)=0 flown(1)=20",
            "changes()=1 pass(1) changes()=1");
    }

    /** Sparrow 0 is in its nest at 400 from the second 21 to 33; 1 is at 399 in the second 32. */
    private static void notAtAll() {
        String nest = "enter(20,999,0) enter(13,999,0) begin() callIn(0) pass(15) setPace(1,12) pass(17)";
        Edge.due("perhaps not at all", nest, "flown(0)=400 stateOf(0)=2 flown(1)=399 strengthOf(1)=856 setPace(1,40)",
            "pass(1) stateOf(0)=1 flown(1)=399 speedOf(1)=0 strengthOf(1)=856 drafts()=1 changes()=0 wearOf(1)=0",
            "gapAhead(1)=1 isDrafting(1)=true flown(0)=400 speedOf(0)=0");
        Edge.due("1 foot", nest.replace("pass(17)", "pass(16) setPace(1,11) pass(1)"), "flown(1)=398 pass(1)",
            "flown(1)=399 speedOf(1)=1 drafts()=1");
    }

    /** Sparrow 0 is at 799, so it flies ahead of 1, which comes from its nest in that second. */
    private static void leavesNestAtItsTurn() {
        Edge.due("not in the way ahead of its turn", "enter(25,999,0) enter(20,999,0) setLaps(9)", WIDE,
            "begin() callIn(1) pass(10) setPace(0,26) pass(10) setPace(0,27) pass(10) setPace(0,28) pass(1)",
            "setPace(0,27) pass(1) flown(0)=799 flown(1)=400 stateOf(1)=2 gapAhead(0)=0 setPace(0,28) pass(1)",
            "flown(0)=824 stateOf(1)=1 flown(1)=400 speedOf(1)=0 drafts()=0 changes()=0 gapAhead(1)=24");
    }

    private static void strengthJustEnough() {
        Edge.due("just as much strength", "enter(12,100,0) begin() pass(24) strengthOf(0)=4 pass(1) flown(0)=300",
            "strengthOf(0)=0 pass(1) flown(0)=304 speedOf(0)=4 strengthOf(0)=0");
        Edge.due("1 less than it needs", "enter(13,104,0) begin() pass(20) strengthOf(0)=4 flown(0)=260 pass(1)",
            "flown(0)=264 strengthOf(0)=4 setPace(0,12) pass(1) flown(0)=276 strengthOf(0)=0");
        Edge.due("the square, divided by 40, rounded down, and 1", "enter(19,999,0) begin() pass(1) strengthOf(0)=989",
            "setPace(0,20) pass(1) strengthOf(0)=978 setPace(0,21) pass(1) strengthOf(0)=966");
        Edge.due("the most feet", "enter(40,999,0) begin() pass(1) strengthOf(0)=958");
        Edge.due("the least pace", "enter(10,999,0) begin() pass(1) strengthOf(0)=996");
    }

    /**
     * Sparrow 1 is 8 feet behind 0 in the second 17, with 101 - 42 - 52 = 7 of its strength; 21 feet
     * in a draft need three fifths of 12, so 7. With 6 it changes its lane as well, and flies 4 feet.
     */
    private static String weakBehindSlowOne(int strength) {
        return "enter(20,100,0) enter(10," + strength + ",0) setLimit(1,40) begin() pass(14) setPace(1,32) pass(2)"
            + " flown(0)=208 flown(1)=204 setPace(1,20) ";
    }

    private static void strengthInDraft() {
        Edge.due("just three fifths", weakBehindSlowOne(101), "strengthOf(1)=7 pass(1) flown(1)=225 strengthOf(1)=0",
            "laneOf(1)=1 drafts()=1 changes()=1");
        Edge.due("1 less than three fifths", weakBehindSlowOne(100), "strengthOf(1)=6 pass(1) flown(1)=208 speedOf(1)=4",
            "strengthOf(1)=6 laneOf(1)=1 drafts()=1 changes()=1");
        Edge.due("more than three fifths", weakBehindSlowOne(102), "strengthOf(1)=8 pass(1) flown(1)=225 strengthOf(1)=1");
    }

    private static void weakFliesFour() {
        Edge.due("at most 4 feet, and the strength stays", "enter(40,100,0) begin() pass(3) flown(0)=100 strengthOf(0)=7",
            "pass(1) flown(0)=104 strengthOf(0)=7 wearOf(0)=3 pass(10) flown(0)=144 strengthOf(0)=7 wearOf(0)=3");
        Edge.due("4 feet, 1 foot and so on behind", beside(0, 466, 14), "strengthOf(0)=0 pass(1) flown(0)=608 laneOf(0)=0");
        Edge.due("weak in the other lane", beside(0, 466, 10), "strengthOf(0)=0 pass(1) flown(0)=608 laneOf(0)=1");
    }

    private static void weakFliesLess() {
        Edge.due("it would not fly further than 3", beside(0, 466, 18), "strengthOf(0)=0 pass(1) flown(0)=607 laneOf(0)=1",
            "strengthOf(0)=0");
        Edge.due("just 4", beside(0, 466, 19), "pass(1) flown(0)=608 laneOf(0)=1 strengthOf(0)=0");
        Edge.due("further than 4", beside(0, 466, 20), "pass(1) flown(0)=608 laneOf(0)=1 strengthOf(0)=0");
        Edge.due("4 with the strength for it", beside(0, 467, 19), "strengthOf(0)=1 pass(1) flown(0)=608 strengthOf(0)=0");
        Edge.due("5 with the strength for it", beside(0, 467, 20), "pass(1) flown(0)=609 strengthOf(0)=0");
    }

    private static void wearFromFifteen() {
        Edge.due("14 feet", "enter(14,999,0) begin() pass(1) wearOf(0)=0");
        Edge.due("15 feet", "enter(15,999,0) begin() pass(1) wearOf(0)=1");
        Edge.due("as far as it flies, not its pace", at(80, 0), "setPace(0,40) setLimit(0,14) pass(1) wearOf(0)=0",
            "setLimit(0,15) pass(1) flown(0)=109 wearOf(0)=1");
        Edge.due("15 feet behind another one", "enter(16,999,0) enter(40,999,0) enter(10,999,1) begin() pass(1)",
            "flown(1)=15 wearOf(1)=1");
        Edge.due("14 feet behind another one", "enter(15,999,0) enter(40,999,0) enter(10,999,1) begin() pass(1)",
            "flown(1)=14 wearOf(1)=0");
        Edge.due("14 feet and 1 for its draft", behindSlowOne(25), "wearOf(1)=5 setPace(1,14) pass(1) flown(1)=119 wearOf(1)=6");
        Edge.due("13 feet and 1 for its draft", behindSlowOne(25), "setPace(1,13) pass(1) flown(1)=118 wearOf(1)=5");
    }

    private static void wearAtMost() {
        Edge.due("at most 100", worn(10), "setPace(0,25) pass(1) speedOf(0)=15 wearOf(0)=100 pass(3) wearOf(0)=100");
        Edge.due("up to 100", worn(9), "setPace(0,24) pass(9) wearOf(0)=99 pass(1) speedOf(0)=15 wearOf(0)=100",
            "setPace(0,25) pass(1) wearOf(0)=100");
    }

    private static void lapEnd() {
        Edge.due("399 is no lap", at(399, 0), "lapsOf(0)=0");
        Edge.due("400 is a lap", at(400, 0), "lapsOf(0)=1 stateOf(0)=1");
        Edge.due("called in, at 399", "enter(14,999,0) begin() callIn(0)", flyTo(0, 399), "stateOf(0)=1 rests()=0",
            "isCalledIn(0)=true pass(1) flown(0)=400 stateOf(0)=2 speedOf(0)=1 rests()=1 isCalledIn(0)=false");
        Edge.due("called in, just to 400", "enter(14,999,0) begin() callIn(0)", flyTo(0, 400), "stateOf(0)=2 flown(0)=400",
            "rests()=1 isCalledIn(0)=false");
        Edge.due("called in at 400 is for the next lap", "enter(14,999,0) setLaps(9) begin()", flyTo(0, 400),
            "callIn(0)=true setPace(0,10) pass(1) flown(0)=410 stateOf(0)=1 isCalledIn(0)=true pass(38) flown(0)=790 pass(1)",
            "flown(0)=800 stateOf(0)=2 lapsOf(0)=2");
        Edge.due("with the last lap it arrives, and stays called in", "enter(14,999,0) setLaps(1) begin() callIn(0)",
            flyTo(0, 400), "stateOf(0)=3 isCalledIn(0)=true rests()=0 wearOf(0)=0 strengthOf(0)=863");
    }

    /** At 390 it is worn by 20 and flies 18 feet, for 9 of its strength. */
    private static void lapEndIsCut() {
        String near = "enter(20,999,0) setLaps(LAPS) begin() pass(20) flown(0)=390 strengthOf(0)=789 wearOf(0)=20 ";
        Edge.due("without regard to the end of a lap", near.replace("LAPS", "1"), "pass(1)=1 flown(0)=400 speedOf(0)=10",
            "strengthOf(0)=780 wearOf(0)=21 flownByAccount()=400");
        Edge.due("past a lap that is not the last", near.replace("LAPS", "2"), "pass(1)=0 flown(0)=408 speedOf(0)=18",
            "strengthOf(0)=780 wearOf(0)=21");
        Edge.due("just at the end of the lap", near.replace("LAPS", "2"), "callIn(0) pass(1)=0 flown(0)=400 speedOf(0)=10",
            "strengthOf(0)=999 wearOf(0)=0 flownByAccount()=400");
    }

    private static void nestStrength() {
        for (int strength = 817; strength <= 822; strength++) {
            Edge.due("300 stronger, at most 999", "enter(10," + strength + ",0) begin() callIn(0) pass(39) strengthOf(0)="
                + (strength - 117), "pass(1) stateOf(0)=2 strengthOf(0)=" + Math.min(999, strength + 180));
        }
        Edge.due("300 stronger from none", "enter(10,120,0) begin() callIn(0) pass(40) strengthOf(0)=300 stateOf(0)=2");
        Edge.due("stronger than it came", "enter(10,200,0) begin() callIn(0) pass(40) strengthOf(0)=380");
    }

    private static void restOfTwelve() {
        Edge.due("12 seconds, the first not counted", "enter(20,500,0) begin() callIn(0) pass(21) stateOf(0)=2 speedOf(0)=10",
            "strengthOf(0)=581 pass(1) stateOf(0)=2 speedOf(0)=0 pass(10) stateOf(0)=2 seconds()=32 pass(1) stateOf(0)=1",
            "flown(0)=400 speedOf(0)=0 strengthOf(0)=581 pass(1) flown(0)=420 speedOf(0)=20 strengthOf(0)=570");
        Edge.due("one that rests does not wear", "enter(20,500,0) begin() callIn(0) pass(33) wearOf(0)=0 rests()=1");
    }

    private static void restTwice() {
        Edge.due("again for 12 seconds", "enter(10,999,0) setLaps(3) begin() callIn(0) pass(40) stateOf(0)=2 callIn(0)=true",
            "pass(12) stateOf(0)=1 isCalledIn(0)=true pass(39) flown(0)=790 pass(1) flown(0)=800 stateOf(0)=2 rests()=2",
            "isCalledIn(0)=false pass(11) stateOf(0)=2 pass(1) stateOf(0)=1 pass(40)=1 flown(0)=1200 rests()=2");
    }

    private static void nobodysWay() {
        Edge.due("past one in its nest", "enter(20,999,0) enter(13,999,0) begin() callIn(0) pass(15) setPace(1,12) pass(16)",
            "flown(1)=387 stateOf(0)=2 gapAhead(1)=0 isDrafting(1)=false setPace(1,20) pass(1) flown(1)=407 laneOf(1)=0",
            "changes()=0 drafts()=0 gapAhead(0)=7 pass(1) stateOf(0)=1");
        Edge.due("past one that has arrived", "enter(40,999,0) enter(20,999,0) setLaps(1)", WIDE, "begin() pass(20)",
            "stateOf(0)=3 flown(1)=390 gapAhead(1)=0 isDrafting(1)=false pass(1)=1 changes()=0 drafts()=0");
    }

    private static void noMoreSeconds() {
        Edge.due("as soon as all have arrived", "enter(20,999,0) enter(10,999,1) setLaps(1) begin() pass(39)=1 seconds()=39",
            "isRacing()=true pass(200)=1 seconds()=40 isRacing()=false timeOf(1)=40 speedOf(1)=10 speedOf(0)=0");
    }
}
