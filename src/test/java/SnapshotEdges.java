/** The boundary sentences of the promises 14 to 17, each with a row of its own. */
final class SnapshotEdges {
    private static final String RACING = "enter(20,999,0) begin()";

    private SnapshotEdges() {
    }

    static void run() {
        keepSlots();
        keepTakesPlace();
        keepIsACopy();
        goBackSlots();
        goBackStays();
        goBackHoldsAll();
        goBackIsUndoable();
        undoNone();
        undoSix();
        undoKeepsTheRest();
        alsoIfItChangesNothing();
        refusedSaveNothing();
        everyUndoable();
    }

    private static void keepSlots() {
        Edge.due("P14 slot 0, 1", "keep(0)=null keep(1)=null keep(-1)=IAE keep(2)=IAE keep(-2147483648)=IAE",
            "keep(2147483647)=IAE savedStates()=0");
        Edge.due("P14 in the one slot alone", "keep(1) goBack(0)=ISE goBack(1)=null");
        Edge.due("P14 a new object's state", "keep(0) enter(20,500,0) goBack(0)=null sparrows()=0 begin()=ISE");
    }

    private static void keepTakesPlace() {
        Edge.due("P14 in place of the one in the slot", RACING, "keep(0) pass(3) keep(0) pass(3) goBack(0)=null flown(0)=60",
            "goBack(1)=ISE");
        Edge.due("P14 two slots", RACING, "pass(1) keep(0) pass(1) keep(1) pass(1) goBack(0)=null flown(0)=20 goBack(1)=null",
            "flown(0)=40 goBack(0)=null flown(0)=20");
    }

    private static void keepIsACopy() {
        Edge.due("what comes behind does not change it", RACING, "pass(2) keep(0) setPace(0,33) callIn(0) setLimit(0,9) pass(9)",
            "goBack(0)=null paceOf(0)=20 isCalledIn(0)=false limitOf(0)=20 flown(0)=40 seconds()=2 strengthOf(0)=977");
        Edge.due("undo does not change it", RACING, "keep(0) undo()=null isRacing()=false goBack(0)=null isRacing()=true");
    }

    private static void goBackSlots() {
        Edge.due("P15 slot 0, 1", RACING, "goBack(-1)=IAE goBack(2)=IAE goBack(-2147483648)=IAE goBack(2147483647)=IAE");
        Edge.due("P15 no snapshot", RACING, "goBack(0)=ISE goBack(1)=ISE keep(0) goBack(1)=ISE goBack(0)=null");
        Edge.due("P15 out of range, though none is kept", "goBack(2)=IAE goBack(-1)=IAE");
    }

    private static void goBackStays() {
        Edge.due("P15 which stays", RACING, "pass(1) keep(1) pass(2) goBack(1)=null flown(0)=20 pass(5) setPace(0,30) goBack(1)=null",
            "flown(0)=20 paceOf(0)=20 goBack(1)=null undo() undo() undo() goBack(1)=null flown(0)=20");
    }

    private static void goBackHoldsAll() {
        Edge.due("all of the course and the sparrows", "enter(20,999,0) setLaps(5) setLimit(3,9) keep(0) enter(30,300,1) pair(0,1)",
            "setLaps(1) setLimit(3,33) setPace(0,11) begin() pass(200) goBack(0)=null sparrows()=1 limitOf(3)=9 paceOf(0)=20",
            "partnerOf(0)=ISE flown(0)=0 stateOf(0)=0 races()=0 winsInPairs()=0 seconds()=0 arrived()=0 flownByAccount()=0",
            "setLaps(2)=5 flown(1)=IOOBE enter(10,100,1)=1 partnerOf(1)=ISE strengthOf(1)=100");
        Edge.due("the rest that is left", "enter(20,999,0) begin() callIn(0) pass(24) keep(0) pass(20) goBack(0)=null stateOf(0)=2",
            "pass(8) stateOf(0)=2 pass(1) stateOf(0)=1 flown(0)=400 rests()=1");
        Edge.due("the lane and strength with which they came", "enter(20,999,0) keep(0) undo() enter(30,100,1) goBack(0)=null",
            "begin()=1 laneOf(0)=0 strengthOf(0)=999 paceOf(0)=20");
        Edge.due("the order of arrival", "enter(20,999,0) enter(21,999,1) setLaps(1) begin() pass(1) setPace(1,20) pass(20) keep(1)",
            "begin() pass(5) goBack(1)=null arrivedAt(0)=1 arrivedAt(1)=0 timeOf(0)=21 arrivedAt(2)=IOOBE birdByOrder(0)=1");
        Edge.due("accounts", "enter(40,100,0) enter(20,999,0) setLimit(0,40) begin() pass(9) keep(0) begin() goBack(0)=null",
            "drafts()=4 changes()=1 rests()=0 races()=1 seconds()=9 flownByAccount()=232 flownByBirds()=232");
        Edge.due("a race in a snapshot goes on", RACING, "pass(2) keep(0) pass(200) isRacing()=false goBack(0)=null isRacing()=true",
            "enter(20,500,1)=ISE setLaps(3)=ISE pass(1)=0 flown(0)=60");
    }

    private static void goBackIsUndoable() {
        Edge.due("P15 undoable", RACING, "keep(0) pass(3) goBack(0)=null flown(0)=0 savedStates()=4 undo()=null flown(0)=60",
            "savedStates()=3");
        Edge.due("the saved states are in no snapshot", RACING, "keep(0) undo()*2 savedStates()=0 goBack(0)=null savedStates()=1",
            "undo()=null sparrows()=0");
        Edge.due("the slots are in no snapshot", RACING, "keep(0) pass(1) keep(1) goBack(0)=null goBack(1)=null flown(0)=20");
        Edge.due("at most 6", RACING, "keep(0) goBack(0)*7=null savedStates()=6");
    }

    private static void undoNone() {
        Edge.due("P16 none", "undo()=ISE enter(20,500,0) undo()=null undo()=ISE sparrows()=0 savedStates()=0");
        Edge.due("P16 undo is not undoable", "enter(20,500,0) setPace(0,30) undo()=null paceOf(0)=20 undo()=null sparrows()=0",
            "undo()=ISE");
    }

    private static void undoSix() {
        String seven = "enter(10,500,0) setPace(0,11) setPace(0,12) setPace(0,13) setPace(0,14) setPace(0,15) ";
        Edge.due("P16 six", seven, "savedStates()=6 undo()=null paceOf(0)=14 undo()=null paceOf(0)=13 undo()=null undo()=null",
            "undo()=null paceOf(0)=10 savedStates()=1 undo()=null sparrows()=0 savedStates()=0 undo()=ISE");
        Edge.due("the oldest one is dropped first", seven, "setPace(0,16)=15 savedStates()=6 undo()*5 paceOf(0)=11",
            "savedStates()=1 undo()=null paceOf(0)=10 savedStates()=0 undo()=ISE sparrows()=1");
        Edge.due("each of the six that are left", seven, "setPace(0,16) setPace(0,17) undo() paceOf(0)=16 undo() paceOf(0)=15",
            "undo() paceOf(0)=14 undo() paceOf(0)=13 undo() paceOf(0)=12 undo() paceOf(0)=11 undo()=ISE");
        Edge.due("P16 drops it", seven, "undo()=null setPace(0,20)=14 savedStates()=6 undo()=null paceOf(0)=14 undo()=null",
            "paceOf(0)=13");
        Edge.due("P17 0 to 6", "savedStates()=0 setLaps(1)=2 savedStates()=1 setLaps(1)=1 savedStates()=2 setLaps(1)=1 savedStates()=3",
            "setLaps(1)=1 savedStates()=4 setLaps(1)=1 savedStates()=5 setLaps(1)=1 savedStates()=6 setLaps(1)=1 savedStates()=6",
            "undo()=null savedStates()=5 undo()*5 savedStates()=0");
    }

    private static void undoKeepsTheRest() {
        Edge.due("all but the buffer", "text(n0) enter(20,500,0) text(;) undo()=null clearBuffer()=3");
        Edge.due("all but the slots", RACING, "pass(1) keep(0) undo()=null goBack(0)=null flown(0)=20");
        Edge.due("a slot that is taken behind it stays taken", RACING, "pass(1) keep(1) undo()*3 savedStates()=0 sparrows()=0",
            "goBack(1)=null sparrows()=1 flown(0)=20");
    }

    private static void alsoIfItChangesNothing() {
        Edge.due("also if it changes nothing", RACING, "setPace(0,20)=20 savedStates()=3 setLimit(0,20)=20 savedStates()=4 begin()=1",
            "savedStates()=5 keep(0) goBack(0)=null savedStates()=6 undo()=null savedStates()=5 races()=2");
        Edge.due("the same laps", "setLaps(2)=2 savedStates()=1 undo()=null setLaps(2)=2");
        Edge.due("the same pair", "enter(20,500,0)*2 pair(0,1)=1 savedStates()=3 pair(0,1)=1 savedStates()=4");
    }

    private static void refusedSaveNothing() {
        Edge.due("one that throws saves nothing", "enter(9,500,0)=IAE setLaps(0)=IAE begin()=ISE pass(1)=ISE follow()=IAE goBack(0)=ISE",
            "setPace(0,20)=IOOBE callIn(0)=IOOBE pair(0,1)=IOOBE setLimit(4,20)=IOOBE savedStates()=0 undo()=ISE");
        Edge.due("one that throws drops nothing", "enter(10,500,0) setPace(0,11)*5 savedStates()=6 setPace(0,9)=IAE pass(1)=ISE",
            "enter(10,99,0)=IAE undo()*6 sparrows()=0");
    }

    private static void everyUndoable() {
        Edge.due("each of them", "enter(20,500,0)=0 savedStates()=1 setPace(0,21)=20 savedStates()=2 callIn(0)=true savedStates()=3",
            "setLimit(0,21)=20 savedStates()=4 setLaps(3)=2 savedStates()=5 begin()=1 savedStates()=6");
        Edge.due("each of the others", "enter(20,500,0)*2 pair(0,1)=1 savedStates()=3 begin()=2 savedStates()=4 pass(1)=0 savedStates()=5",
            "text(n0) follow()=1 savedStates()=6");
        Edge.due("going back", "keep(0) goBack(0)=null savedStates()=1");
    }
}
