/** The boundary sentences of the promises 36 to 40, each with a row of its own. */
final class ForesightEdges {
    private static final String ONE = "enter(20,500,0)";
    private static final String RACING = ONE + " begin()";
    private static final String OVER = ONE + " setLaps(1) begin() pass(21)";
    private static final String WIDE = "setLimit(0,40) setLimit(1,40) setLimit(2,40) setLimit(3,40)";

    private ForesightEdges() {
    }

    static void run() {
        wouldFlyRange();
        wouldFlyOrder();
        wouldFlyAsItIs();
        wouldWinWhen();
        wouldWinOfSeveral();
        secondsToNextWhen();
        secondsToNextRange();
        flownWithPaceRange();
        flownWithPaceOrder();
        flownWithPaceAlone();
        bestPaceOrder();
        bestPaceOfSeveral();
        bestPaceEnds();
    }

    private static void wouldFlyRange() {
        Edge.due("P36 1 to 200", "enter(10,999,0) setLaps(9) begin() wouldFly(0,1)=10 wouldFly(0,200)=2000 wouldFly(0,0)=IAE",
            "wouldFly(0,201)=IAE wouldFly(0,-1)=IAE wouldFly(0,-2147483648)=IAE wouldFly(0,2147483647)=IAE");
        Edge.due("P36 no such sparrow", RACING, "wouldFly(-1,1)=IOOBE wouldFly(1,1)=IOOBE wouldFly(2147483647,1)=IOOBE");
    }

    private static void wouldFlyOrder() {
        Edge.due("P36 no such sparrow, then out of range, then no race", ONE, "wouldFly(1,0)=IOOBE wouldFly(-1,201)=IOOBE",
            "wouldFly(0,0)=IAE wouldFly(0,201)=IAE wouldFly(0,1)=ISE wouldFly(1,1)=IOOBE");
        Edge.due("P36 the race is over", OVER, "wouldFly(0,1)=ISE wouldFly(0,0)=IAE wouldFly(1,1)=IOOBE");
        Edge.due("P36 no race, with one that came", OVER, ONE, "wouldFly(1,200)=ISE");
        Edge.due("P36 a race", RACING, "wouldFly(1,0)=IOOBE wouldFly(0,0)=IAE wouldFly(0,1)=20");
    }

    private static void wouldFlyAsItIs() {
        Edge.due("P36 as far as the laps are long", RACING, "wouldFly(0,200)=800 flown(0)=0 seconds()=0");
        Edge.due("P36 one that is called in", RACING, "callIn(0) wouldFly(0,20)=390 wouldFly(0,21)=400 wouldFly(0,33)=400 wouldFly(0,34)=420",
            "isCalledIn(0)=true rests()=0");
        Edge.due("P36 one that rests", RACING, "callIn(0) pass(30) wouldFly(0,3)=400 wouldFly(0,4)=420");
        Edge.due("P36 one that has arrived", "enter(20,999,0) enter(10,999,1) setLaps(1) begin() pass(21) wouldFly(0,1)=400",
            "wouldFly(1,18)=390 wouldFly(1,19)=400 wouldFly(1,200)=400 arrived()=1");
    }

    private static void wouldWinWhen() {
        Edge.due("P37 no race goes on", ONE, "wouldWin()=ISE begin() wouldWin()=0");
        Edge.due("P37 none", "wouldWin()=ISE");
        Edge.due("P37 one has arrived", "enter(20,999,0) enter(10,999,1) setLaps(1) begin() pass(20) wouldWin()=0 pass(1)=1 wouldWin()=ISE");
        Edge.due("P37 the race is over", OVER, "wouldWin()=ISE");
        Edge.due("P37 nothing else is done", "enter(20,999,0) enter(10,999,1) setLaps(1) begin() wouldWin()=0 callIn(0) wouldWin()=0",
            "isCalledIn(0)=true seconds()=0");
        Edge.due("P37 a rest is in it", "enter(20,999,0) enter(19,999,1) begin() wouldWin()=0 callIn(0) wouldWin()=1");
    }

    private static void wouldWinOfSeveral() {
        Edge.due("P37 as far, the lower number", "enter(20,999,1) enter(20,999,0) begin() wouldWin()=0");
        Edge.due("P37 of several the one ahead", "enter(38,999,0) enter(39,999,1) setLaps(1)", WIDE, "begin() wouldWin()=1 pass(10)",
            "wouldWin()=1 pass(1)=2 arrivedAt(0)=1");
    }

    private static void secondsToNextWhen() {
        Edge.due("P38 no race goes on", ONE, "secondsToNext()=ISE begin() secondsToNext()=44");
        Edge.due("P38 the race is over", OVER, "secondsToNext()=ISE");
        Edge.due("P38 also when one has arrived", "enter(20,999,0) enter(10,999,1) setLaps(1) begin() secondsToNext()=21 pass(20)",
            "secondsToNext()=1 pass(1)=1 secondsToNext()=19 pass(18)=0 secondsToNext()=1 pass(1)=1 secondsToNext()=ISE");
    }

    /** Pace 10 has strength for 33 seconds; 3270 feet more take 818 seconds of 4 feet. */
    private static void secondsToNextRange() {
        Edge.due("P38 1 at least", "enter(40,999,0) setLaps(1)", WIDE, "begin() pass(9) secondsToNext()=1 pass(1)=1");
        Edge.due("P38 far more than 200", "enter(10,100,0) setLaps(9) begin() secondsToNext()=851 wouldWin()=0 pass(200)*4 secondsToNext()=51",
            "pass(50)=0 pass(1)=1");
    }

    private static void flownWithPaceRange() {
        Edge.due("P39 10 to 40", "enter(20,999,0) setLaps(9)", WIDE, "begin() flownWithPace(0,10)=500 flownWithPace(0,9)=IAE",
            "flownWithPace(0,41)=IAE flownWithPace(0,0)=IAE flownWithPace(0,-2147483648)=IAE flownWithPace(0,2147483647)=IAE");
        Edge.due("P39 the most", "enter(20,999,0) setLaps(1)", WIDE, "begin() flownWithPace(0,40)=400 paceOf(0)=20");
        Edge.due("P39 no such sparrow", RACING, "flownWithPace(-1,20)=IOOBE flownWithPace(1,20)=IOOBE flownWithPace(2147483647,20)=IOOBE");
    }

    private static void flownWithPaceOrder() {
        Edge.due("P39 no such sparrow, then out of range, then no race", ONE, "flownWithPace(1,9)=IOOBE flownWithPace(-1,41)=IOOBE",
            "flownWithPace(0,9)=IAE flownWithPace(0,41)=IAE flownWithPace(0,20)=ISE flownWithPace(1,20)=IOOBE");
        Edge.due("P39 the race is over", OVER, "flownWithPace(0,20)=ISE flownWithPace(0,41)=IAE flownWithPace(1,20)=IOOBE");
    }

    private static void flownWithPaceAlone() {
        Edge.due("P39 just 50 seconds", "enter(20,999,0) setLaps(9) begin() flownWithPace(0,10)=500 flownWithPace(0,14)=700");
        Edge.due("P39 from now on", "enter(10,999,0) setLaps(9) begin() pass(7) flownWithPace(0,10)=570 flownWithPace(0,14)=770 paceOf(0)=10");
        Edge.due("P39 the others keep their pace", "enter(10,999,0) enter(14,999,1) setLaps(9) begin() flownWithPace(0,14)=700",
            "flownWithPace(1,10)=500 wouldFly(1,50)=700 paceOf(0)=10 paceOf(1)=14");
        Edge.due("P39 one that has arrived", "enter(20,999,0) enter(10,999,1) setLaps(1) begin() pass(21) flownWithPace(0,40)=400 bestPace(0)=10");
    }

    private static void bestPaceOrder() {
        Edge.due("P40 no such sparrow, then no race", ONE, "bestPace(1)=IOOBE bestPace(-1)=IOOBE bestPace(0)=ISE begin() bestPace(1)=IOOBE",
            "bestPace(-1)=IOOBE bestPace(-2147483648)=IOOBE bestPace(2147483647)=IOOBE");
        Edge.due("P40 the race is over", OVER, "bestPace(0)=ISE bestPace(1)=IOOBE");
    }

    /** With strength 100, 12 flies 25 seconds and then 4 feet, 14 flies 20 seconds and then 4 feet: 400. */
    private static void bestPaceOfSeveral() {
        Edge.due("P40 of several the least", "enter(20,100,0) setLaps(9) begin() flownWithPace(0,10)=398 flownWithPace(0,11)=375",
            "flownWithPace(0,12)=400 flownWithPace(0,13)=380 flownWithPace(0,14)=400 bestPace(0)=12 paceOf(0)=20");
        Edge.due("P40 of all that arrive the least", "enter(40,999,0) setLaps(1) begin() bestPace(0)=10 flownWithPace(0,10)=400");
    }

    private static void bestPaceEnds() {
        Edge.due("P40 10", "enter(20,999,0) setLaps(1) begin() pass(10) bestPace(0)=10");
        Edge.due("P40 40", "enter(30,951,0) setLimit(0,14) setLimit(1,16) setLimit(2,13) setLimit(3,11) setLaps(9) begin() callIn(0)",
            "bestPace(0)=40 paceOf(0)=30");
    }
}
