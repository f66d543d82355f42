/** The boundary sentences of the promises 10 to 13 and of the input text, each with a row of its own. */
final class TextEdges {
    private static final String ONE = "enter(10,999,0) setLaps(9)";
    private static final String RACING = ONE + " begin()";
    private static final String SIXTY = "n0;n0;n0;n0;n0;n0;n0;n0;n0;n0;n0;n0;n0;n0;n0;n0;n0;n0;n0;";

    private TextEdges() {
    }

    static void run() {
        appendCodes();
        appendToFull();
        clearBuffer();
        noSavedStates();
        firstErrorEmptyAndFull();
        firstErrorStays();
        everySignBehindEveryBeginning();
        leadingZeros();
        followNoOrders();
        followNumbers();
        followTargets();
        followLikeTheCalls();
        followAtItsTurn();
        followAllOrNothing();
        followOrderOfExceptions();
        followIsOneCall();
        followSixtySigns();
        bufferStays();
    }

    private static void appendCodes() {
        Edge.due("P10 33 to 126", "append(33)=1 append(126)=2 append(32)=IAE append(127)=IAE append(0)=IAE",
            "append(-1)=IAE append(256)=IAE append(65569)=IAE append(-2147483648)=IAE append(2147483647)=IAE",
            "clearBuffer()=2");
        for (int code = 33; code <= 126; code++) {
            SparrowRace race = new SparrowRace();
            Check.due("P10 append(" + code + ")", race.append(code), 1);
        }
    }

    private static void appendToFull() {
        StringBuilder sixty = new StringBuilder();
        for (int length = 1; length <= 60; length++) {
            sixty.append("append(112)=").append(length).append(' ');
        }
        Edge.due("P10 60 characters", sixty.toString(), "append(112)=ISE append(33)=ISE firstError()=1");
        Edge.due("P10 not 33 to 126 ahead of 60 characters", "append(112)*60 append(32)=IAE append(127)=IAE");
        Edge.due("P10 59 characters", "append(112)*59 append(112)=60 append(112)=ISE clearBuffer()=60 append(112)=1");
    }

    private static void clearBuffer() {
        Edge.due("P11 an empty one", "clearBuffer()=0 clearBuffer()=0");
        Edge.due("P11 a full one", "append(112)*60 clearBuffer()=60 clearBuffer()=0 firstError()=0");
        Edge.due("P11 one character", "append(112) clearBuffer()=1 append(110)=1 firstError()=1");
        Edge.due("P11 also with an error", "text(n0;x) firstError()=3 clearBuffer()=4 firstError()=0");
    }

    private static void noSavedStates() {
        Edge.due("not undoable", "append(112)=1 savedStates()=0 undo()=ISE firstError()=1 savedStates()=0",
            "clearBuffer()=1 savedStates()=0 undo()=ISE");
        Edge.due("the buffer is in no saved state", "text(n0) setLaps(3) append(59)=3 undo() clearBuffer()=3");
        Edge.due("the buffer is in no snapshot", "text(n0) keep(0) append(59)=3 goBack(0) clearBuffer()=3");
    }

    private static void firstErrorEmptyAndFull() {
        Edge.due("P12 none: the length", "firstError()=0 append(112) firstError()=1 append(48) firstError()=2");
        Edge.due("P12 begun, of any length", "text(" + SIXTY + "p0=) firstError()=60 follow()=IAE");
        Edge.due("P12 the last of 60", "text(" + SIXTY + "p8=) firstError()=58");
        Edge.due("P12 the very last of 60", "text(" + SIXTY + "t2x) firstError()=59");
        Edge.due("P12 a whole one of 60", "enter(10,999,0) begin() text(" + SIXTY + "t10) firstError()=60");
        Edge.due("P12 the first of 60", "append(112) append(112)*59 firstError()=1");
    }

    private static void firstErrorStays() {
        Edge.due("P12 the first of two", "text(x) firstError()=0 text(y) firstError()=0");
        Edge.due("P12 what is behind is not looked at", "text(n0;;n0) firstError()=3 text(;p9) firstError()=3");
    }

    /** Each beginning of orders, and the characters that may stand behind it. */
    private static final String[][] BEHIND = {
        {"", "pnct"}, {"p", "01234567"}, {"n", "01234567"}, {"c", "0123"}, {"p0", "="}, {"p7", "="}, {"c0", "="},
        {"c3", "="}, {"n0", ";"}, {"n7", ";"}, {"p0=", "1234"}, {"p7=", "1234"}, {"p0=1", "0123456789"},
        {"p0=2", "0123456789"}, {"p0=3", "0123456789"}, {"p0=4", "0"}, {"p0=10", ";"}, {"p0=19", ";"}, {"p0=20", ";"},
        {"p0=39", ";"}, {"p0=40", ";"}, {"c0=", "123489"}, {"c3=", "123489"}, {"c0=8", ";"}, {"c0=9", ";"},
        {"c0=1", "0123456789"}, {"c0=2", "0123456789"}, {"c0=3", "0123456789"}, {"c0=4", "0"}, {"c0=10", ";"},
        {"c0=39", ";"}, {"c0=40", ";"}, {"t", "123456789"}, {"t1", "0123456789;"}, {"t2", "0123456789;"},
        {"t3", "0123456789;"}, {"t9", "0123456789;"}, {"t10", "0123456789;"}, {"t19", "0123456789;"}, {"t20", "0;"},
        {"t21", ";"}, {"t29", ";"}, {"t30", ";"}, {"t99", ";"}, {"t100", ";"}, {"t199", ";"}, {"t200", ";"},
        {"n0;", "pnct"}, {"p0=10;", "pnct"}, {"c0=8;", "pnct"}, {"t200;", "pnct"}, {"t1;n0;c", "0123"},
        {"p0=40;p7=4", "0"}, {"c1=8;p1=", "1234"}, {"t2;t20", "0;"}, {"n7;c0=", "123489"}, {"t200;n", "01234567"}};

    private static void firstErrorIs(String text, int due) {
        SparrowRace race = new SparrowRace();
        Races.type(race, text);
        Check.due("P12 firstError of " + text, race.firstError(), due);
    }

    private static void everySignBehindEveryBeginning() {
        for (String[] row : BEHIND) {
            firstErrorIs(row[0], row[0].length());
            for (char sign = 33; sign <= 126; sign++) {
                firstErrorIs(row[0] + sign, row[0].length() + (row[1].indexOf(sign) >= 0 ? 1 : 0));
            }
        }
    }

    private static void leadingZeros() {
        Edge.due("without leading zeros", RACING, "text(p0=010) firstError()=3 follow()=IAE clearBuffer() text(c0=08)",
            "firstError()=3 follow()=IAE clearBuffer() text(t01) firstError()=1 follow()=IAE clearBuffer()",
            "text(n00) firstError()=2 follow()=IAE clearBuffer() text(t0) firstError()=1 follow()=IAE");
    }

    private static void followNoOrders() {
        String[] none = {"p", "n", "c", "t", "p0", "p0=", "p0=1", "p0=4", "c0", "c0=", "c0=1", "c0=4", "n0;", "t1;", ";", ";n0",
            "n0;;n0", "n0,n0", "n0n0", "x", "n8", "p8=10", "c4=8", "p0=9", "p0=41", "c0=7", "c0=41", "t0", "t201",
            "n0;p0=1", "n0;c0=3", "P0=10", "p0=10;t"};
        Edge.due("P13 no part", RACING, "follow()=IAE savedStates()=3 clearBuffer()=0");
        for (String text : none) {
            Edge.due("P13 no orders as a text", RACING, "text(" + text + ") follow()=IAE clearBuffer()=" + text.length());
        }
    }

    private static void followNumbers() {
        Edge.due("10 to 40", RACING, "text(p0=10) follow()=1 paceOf(0)=10 text(p0=40) follow()=1 paceOf(0)=40");
        Edge.due("8 to 40", RACING, "text(c0=8) follow()=1 limitOf(0)=8 text(c0=40) follow()=1 limitOf(0)=40 text(c0=9)",
            "follow()=1 limitOf(0)=9 text(c0=10) follow()=1 limitOf(0)=10");
        Edge.due("1 to 200", RACING, "text(t1) follow()=1 seconds()=1 text(t200) follow()=1 seconds()=201 text(t199)",
            "follow()=1 seconds()=400 undo()*2 text(t20) follow()=1 seconds()=21");
    }

    private static void followTargets() {
        Edge.due("the first and the last sparrow", "enter(20,500,0)*8 text(p0=11;p7=12;n0;n7) follow()=4 paceOf(0)=11",
            "paceOf(7)=12 paceOf(6)=20 isCalledIn(0)=true isCalledIn(7)=true isCalledIn(1)=false");
        Edge.due("the first and the last corner", "text(c0=11;c3=12) follow()=2 limitOf(0)=11 limitOf(3)=12 limitOf(1)=20");
        Edge.due("the last of seven", "enter(20,500,0)*7 text(n6) follow()=1 text(n7) follow()=ISE");
    }

    private static void followLikeTheCalls() {
        SparrowRace told = Script.run(Script.calls(RACING + " text(p0=30;n0;c2=9;t2;n0;t1) follow()"));
        SparrowRace called = Script.run(Script.calls(RACING
            + " setPace(0,30) callIn(0) setLimit(2,9) pass(2) callIn(0) pass(1)"));
        Check.due("P13 as the calls do", Looks.state(told), Looks.state(called));
        Edge.due("P13 callIn is for both ways", RACING, "text(n0;n0;n0) follow()=3 isCalledIn(0)=true text(n0) follow()=1",
            "isCalledIn(0)=false");
    }

    private static void followAtItsTurn() {
        String last = "enter(20,500,0) setLaps(1)";
        Edge.due("P13 no such sparrow", ONE, "text(n1) follow()=ISE clearBuffer()=2 text(p1=10) follow()=ISE clearBuffer()=5");
        Edge.due("P13 without sparrows", "text(n0) follow()=ISE clearBuffer() text(p0=10) follow()=ISE clearBuffer()",
            "text(t1) follow()=ISE clearBuffer() text(c0=8) follow()=1");
        Edge.due("P13 no race goes on", ONE, "text(t1) follow()=ISE clearBuffer() text(n0;t1) follow()=ISE clearBuffer()",
            "begin() text(n0;t1) follow()=2");
        Edge.due("P13 the race is over when its turn comes", last, "begin() text(t21;t1) follow()=ISE clearBuffer()",
            "text(t20;t1) follow()=2 isRacing()=false text(t1) follow()=ISE");
        Edge.due("P13 it has arrived when its turn comes", last, "begin() text(t21;n0) follow()=ISE clearBuffer()",
            "text(n0;t21) follow()=2 stateOf(0)=3 isCalledIn(0)=true text(n0) follow()=ISE");
        Edge.due("P13 the pace of one that has arrived", last, "begin() text(t21;p0=33;c0=9) follow()=3 paceOf(0)=33");
    }

    private static void followAllOrNothing() {
        Edge.due("P13 all or nothing", RACING, "text(p0=40;c0=9;n0;t9;n1) follow()=ISE paceOf(0)=10 limitOf(0)=20",
            "isCalledIn(0)=false seconds()=0 flown(0)=0 savedStates()=3 clearBuffer()=19");
        Edge.due("P13 the text stays, and goes once its sparrow is there", ONE, "text(n1) follow()=ISE firstError()=2",
            "enter(20,500,1) follow()=1 isCalledIn(1)=true firstError()=0 clearBuffer()=0");
    }

    private static void followOrderOfExceptions() {
        Edge.due("P13 no orders ahead of one that is refused", ONE, "text(n1;x) follow()=IAE clearBuffer() text(t1;)",
            "follow()=IAE clearBuffer() text(p7=10;p0=1) follow()=IAE clearBuffer()=10");
    }

    private static void followIsOneCall() {
        Edge.due("P13 undoable, as one call", RACING, "text(p0=30;n0;c2=9;t2) follow()=4 savedStates()=4 flown(0)=60",
            "undo() flown(0)=0 paceOf(0)=10 limitOf(2)=20 isCalledIn(0)=false savedStates()=3 firstError()=0");
        Edge.due("P13 one state, if six are saved", RACING, "setLimit(0,20)*6 savedStates()=6 text(n0;n0) follow()=2",
            "savedStates()=6 undo()*6 savedStates()=0 undo()=ISE");
        Edge.due("P13 clears the buffer", RACING, "text(n0) follow()=1 clearBuffer()=0 follow()=IAE append(110)=1");
    }

    private static void followSixtySigns() {
        Edge.due("60 characters of orders", RACING, "text(" + SIXTY + "t10) follow()=20 seconds()=10 isCalledIn(0)=true",
            "clearBuffer()=0");
        Edge.due("60 characters that end too early", RACING, "text(" + SIXTY + "n0;) follow()=IAE clearBuffer()=60");
        Edge.due("twelve times 200 seconds", RACING, "text(t200;t200;t200;t200;t200;t200;t200;t200;t200;t200;t200;t200)",
            "follow()=ISE clearBuffer()=59 text(t200;t200;t1) follow()=3 isRacing()=false timeOf(0)=401");
    }

    private static void bufferStays() {
        Edge.due("a call that throws leaves the buffer", "text(n0;x) enter(9,500,0)=IAE setPace(0,20)=IOOBE callIn(0)=IOOBE",
            "pair(0,1)=IOOBE setLimit(4,20)=IOOBE setLaps(0)=IAE begin()=ISE pass(0)=IAE pass(1)=ISE append(32)=IAE follow()=IAE",
            "keep(2)=IAE goBack(2)=IAE goBack(0)=ISE undo()=ISE flown(0)=IOOBE wouldWin()=ISE firstError()=3 clearBuffer()=4");
        Edge.due("a call that does not throw leaves the buffer", "text(n0;x) enter(20,500,0)=0 enter(20,500,1)=1 setPace(0,21)=20",
            "callIn(0)=true pair(0,1)=1 setLimit(0,21)=20 setLaps(3)=2 begin()=2 pass(1)=0 keep(0)=null goBack(0)=null undo()=null",
            "wouldWin() bestPace(0) firstError()=3 clearBuffer()=4");
    }
}
